import java.util.function.Supplier;
import java.util.function.ToIntFunction;

/** "REFUSALS, of several the first in this order" and "What is refused changes nothing", for every call that refuses. */
public final class RefusalsTest {
    private static final int U = Check.UNKNOWN, O = Check.OUTSIDE, N = Check.NOT, F = Check.FULL;

    public static void main(String[] args) {
        Check.of("What is refused changes nothing");
        inAFullLife();
        withoutATown();
        withFullRows();
        behindTheLastDay();
        Check.of("of several the first in this order");
        orderOfTheText();
        orderOfDeeds();
        orderOfDays();
        orderOfWhatIsTried();
        orderOfWhatIsSeen();
        Check.finish();
    }

    /** Everything has a value of its own: 3 is dead, 0 and 1 are away, a text is begun, a fault was told, images differ. */
    private static PersonLines fullLife() {
        PersonLines x = Check.town(Check.FOUR);
        Check.feedAll(x, "p;x");
        x.town();
        x.seed(41);
        x.sleep(0, 1);
        x.keep(0);
        x.seed(42);
        x.end(0, 2);
        x.keep(1);
        x.morning(2);
        x.ride(0, 1, 1);
        x.ride(1, 0, 1);
        x.die(3);
        x.see(0, 1);
        x.see(1, 0);
        x.write(0, 2);
        x.write(1, 1);
        x.seed(43);
        Check.feedAll(x, "p;p");
        return x;
    }

    /** Six seen, twenty written, two hundred letters. */
    private static PersonLines fullRows() {
        PersonLines x = Check.town("p;p2;l1 0,1;");
        for (int i = 0; i < 6; i++) {
            x.see(0, 1);
        }
        for (int i = 0; i < 20; i++) {
            x.write(0, 0);
        }
        Check.feedAll(x, " ".repeat(195) + "p;p7;");
        return x;
    }

    private static PersonLines lastDay() {
        PersonLines x = Check.town("p;p2;l1 0,1;");
        for (int i = 0; i < 300; i++) {
            x.morning(30);
        }
        x.morning(1);
        x.seed(5);
        return x;
    }

    /** All that can be asked; then what can be undone, the images, and the text with an end to it. */
    private static String view(PersonLines x) {
        StringBuilder all = new StringBuilder();
        int persons = x.told(0);
        for (int what = 0; what <= 10; what++) {
            all.append(x.told(what)).append(' ');
        }
        all.append(x.fault()).append(' ').append(x.could()).append(' ').append(x.judge()).append(' ');
        showLife(x, all);
        int seed = x.seed(0);
        all.append("seed ").append(seed).append(' ');
        for (int l = 0; l < x.told(1); l++) {
            all.append(x.line(l, -1)).append(x.line(l, -2)).append(x.line(l, 0)).append(' ');
        }
        for (int i = 0; i < 5 && x.undo(1) != Check.NOT; i++) {
            all.append("undone ").append(x.told(3)).append(' ').append(x.told(5)).append(' ').append(x.at(persons - 3)).append(' ');
        }
        for (int i = 0; i < 2; i++) {
            all.append("image ").append(x.goBack(i)).append(' ').append(x.seed(0)).append(' ').append(x.told(3)).append(' ');
            showLife(x, all);
        }
        x.feed('7');
        x.feed(';');
        return all.append("town ").append(x.town()).append(' ').append(x.fault()).append(' ').append(x.near(0, 1)).toString();
    }

    private static void showLife(PersonLines x, StringBuilder all) {
        for (int p = 0; p < x.told(0); p++) {
            all.append(x.at(p)).append(' ');
            for (int q = 0; q < p; q++) {
                all.append(x.near(p, q)).append(' ');
            }
        }
        for (int l = 0; l < x.told(1); l++) {
            all.append(x.line(l, x.line(l, -1) - 1)).append(' ');
        }
    }

    private static void refused(Supplier<PersonLines> life, String what, int due, ToIntFunction<PersonLines> call) {
        PersonLines x = life.get();
        Check.due(what, call.applyAsInt(x), due);
        Check.holds(what + " changes nothing", view(x).equals(view(life.get())));
    }

    private static void inAFullLife() {
        Supplier<PersonLines> life = RefusalsTest::fullLife;
        refused(life, "feed", O, x -> x.feed(256));
        refused(life, "told", O, x -> x.told(11));
        refused(life, "near", U, x -> x.near(4, 0));
        refused(life, "at", U, x -> x.at(4));
        refused(life, "line", U, x -> x.line(4, 0));
        refused(life, "line's stop", O, x -> x.line(0, 3));
        refused(life, "ride of none", U, x -> x.ride(4, 0, 1));
        refused(life, "ride by none", U, x -> x.ride(2, 4, 1));
        refused(life, "ride of 6", O, x -> x.ride(2, 2, 6));
        refused(life, "ride of the dead", N, x -> x.ride(3, 3, 1));
        refused(life, "ride where it does not stop", N, x -> x.ride(2, 3, 1));
        refused(life, "ride where it stops last", N, x -> x.ride(2, 1, 1));
        refused(life, "sleep of none", U, x -> x.sleep(4, 0));
        refused(life, "sleep by none", U, x -> x.sleep(2, -1));
        refused(life, "sleep of the dead", N, x -> x.sleep(3, 3));
        refused(life, "sleep where it does not stop", N, x -> x.sleep(2, 3));
        refused(life, "sleep where it stops last", N, x -> x.sleep(2, 1));
        refused(life, "no mornings", O, x -> x.morning(0));
        refused(life, "31 mornings", O, x -> x.morning(31));
        refused(life, "end of none", U, x -> x.end(4, 0));
        refused(life, "end in none", U, x -> x.end(0, 4));
        refused(life, "end in a stop", N, x -> x.end(0, 1));
        refused(life, "end in the end", N, x -> x.end(0, 2));
        refused(life, "death of none", U, x -> x.die(4));
        refused(life, "death of the dead", N, x -> x.die(3));
        refused(life, "no days", O, x -> x.drift(0));
        refused(life, "31 days", O, x -> x.drift(31));
        refused(life, "undo 0", O, x -> x.undo(0));
        refused(life, "undo 31", O, x -> x.undo(31));
        refused(life, "undo 6 of 5", N, x -> x.undo(6));
        refused(life, "ways of none", U, x -> x.ways(4, 0, 0));
        refused(life, "ways to none", U, x -> x.ways(0, 4, 0));
        refused(life, "ways what", O, x -> x.ways(0, 1, 2));
        refused(life, "ways of the dead", N, x -> x.ways(3, 1, 0));
        refused(life, "reached by none", U, x -> x.reached(4));
        refused(life, "reached by the dead", N, x -> x.reached(3));
        refused(life, "cuts of none", U, x -> x.cuts(4, 0));
        refused(life, "cuts of the dead", N, x -> x.cuts(3, 0));
        refused(life, "lacks of none", U, x -> x.lacks(4, 0, 0));
        refused(life, "lacks of one twice", U, x -> x.lacks(1, 1, 0));
        refused(life, "lacks what", O, x -> x.lacks(0, 1, 2));
        refused(life, "meet", U, x -> x.meet(4));
        refused(life, "names", O, x -> x.names(61, 0));
        refused(life, "see by none", U, x -> x.see(4, 0));
        refused(life, "see no stop", O, x -> x.see(0, 3));
        refused(life, "write of none", U, x -> x.write(4, 0));
        refused(life, "write to none", U, x -> x.write(0, 4));
        refused(life, "seed", O, x -> x.seed(-1));
        refused(life, "keep", U, x -> x.keep(2));
        refused(life, "go back", U, x -> x.goBack(2));
    }

    private static void withoutATown() {
        Supplier<PersonLines> life = () -> {
            PersonLines x = new PersonLines();
            x.seed(6);
            Check.feedAll(x, "p;p");
            return x;
        };
        refused(life, "morning without a town", N, x -> x.morning(1));
        refused(life, "drift without a town", N, x -> x.drift(1));
        refused(life, "undo without a town", N, x -> x.undo(1));
        refused(life, "go back to nothing", N, x -> x.goBack(0));
        refused(life, "ride without a town", U, x -> x.ride(0, 0, 1));
        refused(life, "end without a town", U, x -> x.end(0, 0));
        refused(life, "die without a town", U, x -> x.die(0));
        refused(life, "see without a town", U, x -> x.see(0, 0));
        refused(life, "write without a town", U, x -> x.write(0, 0));
    }

    private static void withFullRows() {
        Supplier<PersonLines> life = RefusalsTest::fullRows;
        refused(life, "the 201st letter", F, x -> x.feed('p'));
        refused(life, "the seventh that is seen", F, x -> x.see(0, 0));
        refused(life, "the 21st entry", F, x -> x.write(0, 1));
        Check.due("the text that is full is read", townOf(fullRows()), 2);
    }

    private static int townOf(PersonLines x) {
        return x.town();
    }

    private static void behindTheLastDay() {
        refused(RefusalsTest::lastDay, "morning", F, x -> x.morning(1));
        refused(RefusalsTest::lastDay, "drift", F, x -> x.drift(1));
    }

    private static void orderOfTheText() {
        PersonLines full = fullRows();
        Check.due("feed: OUTSIDE, FULL", full.feed(256), O);
        Check.due("feed: OUTSIDE, FULL", full.feed(-1), O);
        Check.due("line: UNKNOWN, OUTSIDE", full.line(1, 9), U);
        Check.due("line: UNKNOWN, OUTSIDE", full.line(-1, -3), U);
    }

    private static void orderOfDeeds() {
        PersonLines x = fullLife();
        Check.due("ride: UNKNOWN, OUTSIDE", x.ride(4, 0, 0), U);
        Check.due("ride: UNKNOWN, OUTSIDE", x.ride(0, 4, 6), U);
        Check.due("ride: UNKNOWN, NOT", x.ride(3, 4, 1), U);
        Check.due("ride: UNKNOWN, OUTSIDE, NOT", x.ride(3, -1, 0), U);
        Check.due("ride: OUTSIDE, NOT (dead)", x.ride(3, 3, 0), O);
        Check.due("ride: OUTSIDE, NOT (dead)", x.ride(3, 3, 6), O);
        Check.due("ride: OUTSIDE, NOT (does not stop there)", x.ride(2, 3, 6), O);
        Check.due("ride: OUTSIDE, NOT (last)", x.ride(2, 1, 0), O);
        Check.due("sleep: UNKNOWN, NOT", x.sleep(3, 4), U);
        Check.due("end: UNKNOWN, NOT", x.end(4, 0), U);
        Check.due("undo: OUTSIDE, NOT", x.undo(31), O);
        Check.due("undo: OUTSIDE, NOT", new PersonLines().undo(31), O);
        Check.due("undo: OUTSIDE, NOT", new PersonLines().undo(0), O);
        Check.due("nothing is changed", x.told(10), 5);
    }

    private static void orderOfDays() {
        PersonLines none = new PersonLines();
        Check.due("morning: OUTSIDE, NOT", none.morning(0), O);
        Check.due("morning: OUTSIDE, NOT", none.morning(31), O);
        Check.due("drift: OUTSIDE, NOT", none.drift(0), O);
        Check.due("drift: OUTSIDE, NOT", none.drift(31), O);
        PersonLines last = lastDay();
        Check.due("morning: OUTSIDE, FULL", last.morning(0), O);
        Check.due("morning: OUTSIDE, FULL", last.morning(31), O);
        Check.due("drift: OUTSIDE, FULL", last.drift(0), O);
        Check.due("drift: OUTSIDE, FULL", last.drift(31), O);
    }

    private static void orderOfWhatIsTried() {
        PersonLines x = fullLife();
        Check.due("ways: UNKNOWN, OUTSIDE", x.ways(4, 0, 2), U);
        Check.due("ways: UNKNOWN, OUTSIDE", x.ways(0, 4, -1), U);
        Check.due("ways: UNKNOWN, NOT", x.ways(3, 4, 0), U);
        Check.due("ways: UNKNOWN, OUTSIDE, NOT", x.ways(3, 4, 2), U);
        Check.due("ways: OUTSIDE, NOT", x.ways(3, 0, 2), O);
        Check.due("ways: OUTSIDE, NOT", x.ways(3, 0, -1), O);
        Check.due("cuts: UNKNOWN, NOT", x.cuts(3, 4), U);
        Check.due("lacks: UNKNOWN, OUTSIDE", x.lacks(4, 0, 2), U);
        Check.due("lacks: UNKNOWN, OUTSIDE", x.lacks(0, 4, -1), U);
        Check.due("lacks: UNKNOWN (one twice), OUTSIDE", x.lacks(2, 2, 2), U);
    }

    private static void orderOfWhatIsSeen() {
        PersonLines full = fullRows();
        Check.due("see: UNKNOWN, OUTSIDE, FULL", full.see(1, 2), U);
        Check.due("see: UNKNOWN, FULL", full.see(1, 0), U);
        Check.due("see: OUTSIDE, FULL", full.see(0, 2), O);
        Check.due("see: OUTSIDE, FULL", full.see(0, -1), O);
        Check.due("write: UNKNOWN, FULL", full.write(2, 0), U);
        Check.due("write: UNKNOWN, FULL", full.write(0, 2), U);
        Check.due("see: UNKNOWN, OUTSIDE", fullLife().see(4, 9), U);
    }
}
