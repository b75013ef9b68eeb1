import java.util.Random;

/** Runs by chance, each call asked of the class and of the oracle: all promises, wrong inputs among them. */
public final class OracleTest {
    private static final int RUNS = 1500;
    private static final int CALLS = 512;

    private final Random random;
    private final PersonLines x = new PersonLines();
    private final Oracle y = new Oracle();
    private final int run;
    private int calls = 0;

    private OracleTest(int run) {
        this.run = run;
        random = new Random(run);
    }

    public static void main(String[] args) {
        for (int run = 0; run < RUNS; run++) {
            new OracleTest(run).play();
        }
        texts();
        Check.finish();
    }

    private void play() {
        if (random.nextInt(20) != 0) {
            tellTown(RandomTown.sound(random));
        }
        while (calls < CALLS - 210) {
            if (random.nextInt(150) == 0) {
                tellTown(random.nextBoolean() ? RandomTown.sound(random) : RandomTown.amiss(random));
            } else {
                call(random.nextInt(40));
            }
        }
        lookAround();
    }

    /** Many short texts with letters amiss, for the faults. */
    private static void texts() {
        for (int i = 0; i < 20000; i++) {
            Random random = new Random(-i);
            PersonLines x = new PersonLines();
            Oracle y = new Oracle();
            String text = RandomTown.amiss(random);
            for (int k = 0; k < text.length(); k++) {
                x.feed(text.charAt(k));
                y.feed(text.charAt(k));
            }
            Check.due("town of '" + text + "'", x.town(), y.town());
            Check.due("fault of '" + text + "'", x.fault(), y.fault());
            Check.due("lines of '" + text + "'", x.told(1), y.told(1));
        }
    }

    private void tellTown(String text) {
        for (int i = 0; i < text.length() && calls < CALLS - 200; i++) {
            same("feed " + text.charAt(i), x.feed(text.charAt(i)), y.feed(text.charAt(i)));
        }
        same("town", x.town(), y.town());
        same("fault", x.fault(), y.fault());
    }

    private void same(String what, int got, int want) {
        calls++;
        Check.due("run " + run + ", call " + calls + ", " + what, got, want);
    }

    private int person() {
        int persons = y.told(0);
        return random.nextInt(25) == 0 || persons == 0 ? wild() : random.nextInt(persons);
    }

    private int lineNumber() {
        int lines = y.told(1);
        return random.nextInt(25) == 0 || lines == 0 ? wild() : random.nextInt(lines);
    }

    private int wild() {
        int[] numbers = {-2, -1, 0, 2, 5, 6, 7, 8, 9, 1000, Integer.MAX_VALUE, Integer.MIN_VALUE};
        return numbers[random.nextInt(numbers.length)];
    }

    private int upTo(int least, int most) {
        return random.nextInt(20) == 0 ? wild() : least + random.nextInt(most - least + 1);
    }

    private void call(int which) {
        switch (which) {
            case 0: same("feed", x.feed(' '), y.feed(' ')); break;
            case 1: { int i = wild(); same("feed " + i, x.feed(i), y.feed(i)); break; }
            case 2: case 3: { int i = upTo(0, 10); same("told " + i, x.told(i), y.told(i)); break; }
            case 4: { int p = person(); int q = person(); same("near", x.near(p, q), y.near(p, q)); break; }
            case 5: { int p = person(); same("at", x.at(p), y.at(p)); break; }
            case 6: { int l = lineNumber(); int i = upTo(-3, 6); same("line", x.line(l, i), y.line(l, i)); break; }
            case 7: case 8: case 9: case 10: case 11: rideSome(); break;
            case 12: case 13: { int p = person(); int l = lineNumber(); same("sleep", x.sleep(p, l), y.sleep(p, l)); break; }
            case 14: case 15: { int n = upTo(1, 3); same("morning", x.morning(n), y.morning(n)); break; }
            case 16: { int l = lineNumber(); int p = person(); same("end", x.end(l, p), y.end(l, p)); break; }
            case 17: { int p = person(); same("die", dies() ? x.die(p) : 0, dies() ? y.die(p) : 0); break; }
            case 18: { int n = upTo(1, random.nextInt(5) == 0 ? 30 : 2); same("drift", x.drift(n), y.drift(n)); break; }
            case 19: case 20: { int n = upTo(1, random.nextInt(5) == 0 ? 30 : 3); same("undo", x.undo(n), y.undo(n)); break; }
            default: askSome(which);
        }
    }

    /** Deaths only now and then, and alike for both: where all are dead little happens. */
    private boolean dies() {
        return calls % 3 == 0;
    }

    private void rideSome() {
        int p = person();
        int l = lineNumber();
        int n = upTo(1, 5);
        same("ride " + p + " " + l + " " + n, x.ride(p, l, n), y.ride(p, l, n));
    }

    private void askSome(int which) {
        int p = person();
        int q = person();
        int what = upTo(0, 1);
        switch (which) {
            case 21: case 22: same("ways", x.ways(p, q, what), y.ways(p, q, what)); break;
            case 23: same("reached", x.reached(p), y.reached(p)); break;
            case 24: same("cuts", x.cuts(p, q), y.cuts(p, q)); break;
            case 25: case 26: same("lacks", x.lacks(p, q, what), y.lacks(p, q, what)); break;
            case 27: same("meet", x.meet(q), y.meet(q)); break;
            case 28: if (calls % 2 == 0) { same("bestEnd", x.bestEnd(), y.bestEnd()); } break;
            case 29: same("warm", x.warm(), y.warm()); break;
            case 30: { int n = upTo(0, 60); int k = upTo(0, 1000); same("names", x.names(n, k), y.names(n, k)); break; }
            case 31: { int l = lineNumber(); int k = upTo(0, 3); same("see", x.see(l, k), y.see(l, k)); break; }
            case 32: same("could", x.could(), y.could()); break;
            case 33: same("lookAt", x.lookAt(), y.lookAt()); break;
            case 34: { int g = random.nextBoolean() && p >= 0 && p < y.told(0) ? y.at(p) : q; same("write", x.write(p, g), y.write(p, g)); break; }
            case 35: same("judge", x.judge(), y.judge()); break;
            case 36: if (random.nextInt(3) == 0) { same("tear", x.tear(), y.tear()); } break;
            case 37: { int v = random.nextInt(); same("seed", x.seed(v), y.seed(v)); break; }
            case 38: { int i = upTo(0, 1); same("keep", x.keep(i), y.keep(i)); break; }
            default: { int i = upTo(0, 1); same("goBack", x.goBack(i), y.goBack(i)); break; }
        }
    }

    private void lookAround() {
        for (int what = 0; what <= 10; what++) {
            same("told " + what, x.told(what), y.told(what));
        }
        for (int p = 0; p < 8; p++) {
            same("at", x.at(p), y.at(p));
            same("reached", x.reached(p), y.reached(p));
            for (int q = 0; q < 8; q++) {
                same("near", x.near(p, q), y.near(p, q));
            }
        }
        same("bestEnd", x.bestEnd(), y.bestEnd());
        same("seed", x.seed(0), y.seed(0));
    }
}
