import java.lang.reflect.Method;
import java.lang.reflect.Modifier;
import java.nio.file.Files;
import java.nio.file.Path;
import java.util.HashMap;
import java.util.HashSet;
import java.util.Map;
import java.util.Set;
import java.util.regex.Matcher;
import java.util.regex.Pattern;

/** README.md tells a run of calls with their answers: they are asked here, so that the page stays true. */
public final class ReadmeTest {
    private static final Pattern TEXT = Pattern.compile("String text = \"([^\"]*)\";");
    private static final Pattern CALL = Pattern.compile("(?m)^x\\.(\\w+)\\(([-0-9, ]*)\\);\\s+// (\\S+)");

    public static void main(String[] args) throws Exception {
        String page = Files.readString(Path.of("README.md"));
        Check.of("README.md");
        Map<String, Method> face = face();
        Set<String> shown = new HashSet<>();
        PersonLines x = new PersonLines();
        Matcher text = TEXT.matcher(page);
        Check.holds("the page has a text", text.find());
        Check.feedAll(x, text.group(1));
        shown.add("feed");
        Matcher call = CALL.matcher(page);
        while (call.find()) {
            Method method = face.get(call.group(1));
            Check.holds(call.group() + " is a call of the face", method != null);
            if (method != null) {
                int got = (Integer) method.invoke(x, numbers(call.group(2)));
                Check.due(call.group(1) + "(" + call.group(2) + ")", got, answer(call.group(3)));
                shown.add(call.group(1));
            }
        }
        for (String name : face.keySet()) {
            Check.holds("the page shows " + name, shown.contains(name));
        }
        Check.finish();
    }

    private static Map<String, Method> face() {
        Map<String, Method> face = new HashMap<>();
        for (Method method : PersonLines.class.getDeclaredMethods()) {
            if (Modifier.isPublic(method.getModifiers())) {
                face.put(method.getName(), method);
            }
        }
        return face;
    }

    private static Object[] numbers(String list) {
        if (list.isBlank()) {
            return new Object[0];
        }
        String[] parts = list.split(",");
        Object[] numbers = new Object[parts.length];
        for (int i = 0; i < parts.length; i++) {
            numbers[i] = Integer.valueOf(parts[i].trim());
        }
        return numbers;
    }

    private static int answer(String word) throws Exception {
        return word.matches("[A-Z]+") ? PersonLines.class.getField(word).getInt(null) : Integer.parseInt(word);
    }
}
