import java.lang.management.ManagementFactory;
import java.lang.reflect.Constructor;
import java.lang.reflect.Field;
import java.lang.reflect.Method;
import java.lang.reflect.Modifier;
import java.nio.file.Files;
import java.nio.file.Path;
import java.util.ArrayList;
import java.util.Arrays;
import java.util.List;
import java.util.Random;
import java.util.TreeSet;
import java.util.regex.Pattern;

/** The public face of the document, those rules of LANGUAGE.md that can be looked up in the source, and the room. */
public final class FaceTest {
    private static final String METHODS = "at(int) bestEnd() could() cuts(int,int) die(int) drift(int) end(int,int) "
            + "fault() feed(int) goBack(int) judge() keep(int) lacks(int,int,int) line(int,int) lookAt() meet(int) "
            + "morning(int) names(int,int) near(int,int) reached(int) ride(int,int,int) see(int,int) seed(int) "
            + "sleep(int,int) tear() told(int) town() undo(int) warm() ways(int,int,int) write(int,int)";

    public static void main(String[] args) throws Exception {
        methods();
        constants();
        source(Files.readString(Path.of("src/main/java/PersonLines.java")));
        room();
        Check.finish();
    }

    private static void methods() {
        Check.holds("public and final", Modifier.toString(PersonLines.class.getModifiers()).equals("public final"));
        Constructor<?>[] makers = PersonLines.class.getDeclaredConstructors();
        Check.holds("one public constructor without arguments", makers.length == 1
                && Modifier.isPublic(makers[0].getModifiers()) && makers[0].getParameterCount() == 0);
        List<String> open = new ArrayList<>();
        TreeSet<String> openNames = new TreeSet<>();
        for (Method m : PersonLines.class.getDeclaredMethods()) {
            if (Modifier.isPrivate(m.getModifiers())) {
                continue;
            }
            Check.holds(m + " is a public method that answers an int", Modifier.toString(m.getModifiers()).equals("public")
                    && m.getReturnType() == int.class);
            open.add(m.toString().replaceAll(".*PersonLines\\.", ""));
            openNames.add(m.getName());
        }
        open.sort(null);
        Check.holds("the methods are " + open, String.join(" ", open).equals(METHODS));
        Check.due("methods", open.size(), 31);
        List<Class<?>> classes = new ArrayList<>(Arrays.asList(PersonLines.class.getDeclaredClasses()));
        Check.holds("at most twelve classes", classes.size() < 12);
        for (Class<?> inside : classes) {
            Check.holds(inside + " is static and not public", Modifier.isStatic(inside.getModifiers())
                    && !Modifier.isPublic(inside.getModifiers()) && !Modifier.isProtected(inside.getModifiers()));
        }
        classes.add(PersonLines.class);
        for (Class<?> each : classes) {
            int fields = 0;
            for (Field f : each.getDeclaredFields()) {
                fields += Modifier.isStatic(f.getModifiers()) ? 0 : 1;
            }
            Check.holds(each + " has at most twenty fields", fields <= 20);
            for (Method m : each.getDeclaredMethods()) {
                Check.holds(m + " has at most seven parameters", m.getParameterCount() <= 7);
                Check.holds(m + " bears no public name", Modifier.isPublic(m.getModifiers())
                        || !openNames.contains(m.getName()));
            }
        }
    }

    private static void constants() throws Exception {
        Object[][] due = {{"NONE", -1}, {"UNKNOWN", -1000000001}, {"OUTSIDE", -1000000002}, {"NOT", -1000000003},
            {"FULL", -1000000004}};
        for (Object[] one : due) {
            Check.due((String) one[0], PersonLines.class.getField((String) one[0]).getInt(null), (Integer) one[1]);
        }
        for (Field f : PersonLines.class.getDeclaredFields()) {
            Check.holds(f + " is private, or a constant of the face",
                    Modifier.isPrivate(f.getModifiers()) || Arrays.stream(due).anyMatch(d -> d[0].equals(f.getName())));
            Check.holds(f + " is final, if static", !Modifier.isStatic(f.getModifiers()) || Modifier.isFinal(f.getModifiers()));
        }
    }

    private static void source(String text) {
        String code = text.replaceAll("(?s)/\\*.*?\\*/", "").replaceAll("//[^\n]*", "");
        String[] ruledOut = {"\\bthrow\\b", "\\btry\\b", "\\bcatch\\b", "\\bsynchronized\\b", "\\bassert\\b", "->", "::",
            "Exact\\b", "\\bimport\\b", "\\bpackage\\b", "\\bvolatile\\b", "\\bnull\\b", "\\[\\]\\s*\\[\\]", "\\bstatic\\s*\\{",
            "\\bprotected\\b", "\\bdouble\\b", "\\bfloat\\b"};
        for (String word : ruledOut) {
            Check.holds("the source is without " + word, !Pattern.compile(word).matcher(code).find());
        }
        for (int i = 0; i < text.length(); i++) {
            if (text.charAt(i) > 126) {
                Check.holds("only plain signs in the source", false);
            }
        }
        java.util.regex.Matcher dotted = Pattern.compile("\\b(Math|Integer|System|Long|Arrays)\\.(\\w+)").matcher(code);
        while (dotted.find()) {
            Check.holds(dotted.group() + " is in the library", Arrays.asList("Math.max", "Math.min", "Integer.bitCount",
                    "System.arraycopy").contains(dotted.group()));
        }
        methodLengths(text.split("\n"));
    }

    private static void methodLengths(String[] lines) {
        Pattern head = Pattern.compile("( {4}| {8})[A-Za-z].*\\) \\{");
        int methods = 0;
        for (int i = 0; i < lines.length; i++) {
            java.util.regex.Matcher found = head.matcher(lines[i]);
            // A statement of an outer method stands at the depth of an inner class's methods.
            if (!found.matches() || lines[i].matches(" *(if|for|while|switch|do)\\b.*")) {
                continue;
            }
            int end = i;
            while (end < lines.length && !lines[end].equals(found.group(1) + "}")) {
                end++;
            }
            methods++;
            Check.holds("the method of line " + (i + 1) + " has at most sixty lines", end - i < 60);
        }
        Check.holds("methods were found: " + methods, methods > 31);
    }

    /** What is made is made in the constructor; the calls make nothing. */
    private static void room() {
        com.sun.management.ThreadMXBean threads = (com.sun.management.ThreadMXBean) ManagementFactory.getThreadMXBean();
        long self = Thread.currentThread().getId();
        PersonLines x = Check.town(RandomTown.sound(new Random(8)));
        long ahead = threads.getThreadAllocatedBytes(self);
        for (int i = 0; i < 1000; i++) {
            everyCall(x);
        }
        // One object a round would be 16000 bytes; the measuring itself, and loading, make a few.
        Check.holds("calls make no objects", threads.getThreadAllocatedBytes(self) - ahead < 8000);
    }

    private static void everyCall(PersonLines x) {
        x.feed('x');
        x.town();
        x.fault();
        x.ride(0, 0, 5);
        x.sleep(1, 1);
        x.morning(2);
        x.end(0, 1);
        x.drift(30);
        x.undo(20);
        x.keep(0);
        x.goBack(0);
        x.die(0);
        x.goBack(0);
        for (int p = 0; p < 4; p++) {
            x.near(p, 0);
            x.at(p);
            x.line(p, 0);
            x.ways(p, 0, 1);
            x.reached(p);
            x.cuts(p, 0);
            x.lacks(p, 0, 1);
            x.meet(p);
        }
        x.told(6);
        x.bestEnd();
        x.warm();
        x.names(60, 3);
        x.see(0, 0);
        x.could();
        x.lookAt();
        x.write(0, 0);
        x.judge();
        x.tear();
        x.seed(3);
    }
}
