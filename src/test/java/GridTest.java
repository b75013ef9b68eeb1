import java.util.ArrayList;
import java.util.List;
import java.util.function.Supplier;

/** Every call with every number at the edges of something, in lives of several kinds, against the oracle. */
public final class GridTest {
    private static final int[] NUMBERS = {Integer.MIN_VALUE, Integer.MIN_VALUE + 1, -1000000001, -65, -3, -2, -1, 0, 1, 2, 3, 4,
        5, 6, 7, 8, 9, 10, 11, 20, 30, 31, 32, 60, 61, 64, 200, 255, 256, 1000, 1001, Integer.MAX_VALUE - 1, Integer.MAX_VALUE};
    /** For three at once: fewer of them. */
    private static final int[] FEW = {Integer.MIN_VALUE, -2, -1, 0, 1, 2, 3, 4, 5, 6, 7, 8, 32, Integer.MAX_VALUE};
    private static final int[] ZERO = {0};

    /** Both, brought to the same state. */
    private record Twins(PersonLines x, Oracle y) {
        void tell(String text) {
            for (int i = 0; i < text.length(); i++) {
                x.feed(text.charAt(i));
                y.feed(text.charAt(i));
            }
        }

        void town(String text) {
            tell(text);
            x.town();
            y.town();
        }
    }

    public static void main(String[] args) {
        List<Supplier<Twins>> lives = new ArrayList<>();
        lives.add(() -> new Twins(new PersonLines(), new Oracle()));
        lives.add(() -> townOnly("p;"));
        lives.add(() -> townOnly("p;p4;"));
        lives.add(() -> townOnly(Check.persons(8, 2) + "l1 7,6,5,4,3,2;l0 2,0;l3 0,1;l2 1,7,0;l0 6,7;l1 3,0,5;"));
        lives.add(GridTest::lived);
        lives.add(GridTest::full);
        for (int life = 0; life < lives.size(); life++) {
            Check.of("life " + life);
            grid(lives.get(life));
        }
        Check.finish();
    }

    private static Twins townOnly(String text) {
        Twins both = new Twins(new PersonLines(), new Oracle());
        both.town(text);
        return both;
    }

    private static Twins lived() {
        Twins both = townOnly(Check.FOUR);
        both.x.seed(77);
        both.y.seed(77);
        both.x.sleep(0, 1);
        both.y.sleep(0, 1);
        both.x.keep(1);
        both.y.keep(1);
        both.x.end(0, 2);
        both.y.end(0, 2);
        both.x.drift(7);
        both.y.drift(7);
        both.x.ride(1, 0, 1);
        both.y.ride(1, 0, 1);
        both.x.die(3);
        both.y.die(3);
        both.x.see(0, 1);
        both.y.see(0, 1);
        both.x.write(0, 2);
        both.y.write(0, 2);
        both.tell("p");
        return both;
    }

    private static Twins full() {
        Twins both = townOnly("p;p9;p0,3;l1 0,1,2;l3 2,1;");
        for (int i = 0; i < 20; i++) {
            both.x.see(0, 2);
            both.y.see(0, 2);
            both.x.write(2, i % 3);
            both.y.write(2, i % 3);
        }
        both.x.morning(30);
        both.y.morning(30);
        both.x.morning(5);
        both.y.morning(5);
        both.tell(" ".repeat(200));
        return both;
    }

    private static void grid(Supplier<Twins> life) {
        for (Call call : Call.values()) {
            int[] first = call.numbers == 3 ? FEW : call.numbers > 0 ? NUMBERS : ZERO;
            int[] second = call.numbers == 3 ? FEW : call.numbers > 1 ? NUMBERS : ZERO;
            int[] third = call.numbers == 3 ? FEW : ZERO;
            for (int a : first) {
                for (int b : second) {
                    for (int c : third) {
                        ask(life.get(), call, a, b, c);
                    }
                }
            }
        }
    }

    private static void ask(Twins both, Call call, int a, int b, int c) {
        String what = call + " " + a + " " + b + " " + c;
        Check.due(what, call.of(both.x, a, b, c), call.of(both.y, a, b, c));
        int ahead = both.y.told(0);
        for (int told : new int[] {0, 1, 2, 3, 4, 5, 7, 8, 9, 10}) {
            Check.due("told " + told + " behind " + what, both.x.told(told), both.y.told(told));
        }
        for (int p = 0; p < ahead; p++) {
            Check.due("at " + p + " behind " + what, both.x.at(p), both.y.at(p));
        }
        Check.due("seed behind " + what, both.x.seed(0), both.y.seed(0));
    }

    /** The calls of the face, by how many numbers they take. */
    private enum Call {
        FEED(1), TOWN(0), FAULT(0), TOLD(1), NEAR(2), AT(1), LINE(2), RIDE(3), SLEEP(2), MORNING(1), END(2), DIE(1), DRIFT(1),
        UNDO(1), WAYS(3), REACHED(1), CUTS(2), LACKS(3), MEET(1), BEST_END(0), WARM(0), NAMES(2), SEE(2), COULD(0), LOOK_AT(0),
        WRITE(2), JUDGE(0), TEAR(0), SEED(1), KEEP(1), GO_BACK(1);

        final int numbers;

        Call(int numbers) {
            this.numbers = numbers;
        }

        int of(PersonLines x, int a, int b, int c) {
            switch (this) {
                case FEED: return x.feed(a);
                case TOWN: return x.town();
                case FAULT: return x.fault();
                case TOLD: return x.told(a);
                case NEAR: return x.near(a, b);
                case AT: return x.at(a);
                case LINE: return x.line(a, b);
                case RIDE: return x.ride(a, b, c);
                case SLEEP: return x.sleep(a, b);
                case MORNING: return x.morning(a);
                case END: return x.end(a, b);
                case DIE: return x.die(a);
                case DRIFT: return x.drift(a);
                case UNDO: return x.undo(a);
                case WAYS: return x.ways(a, b, c);
                case REACHED: return x.reached(a);
                case CUTS: return x.cuts(a, b);
                case LACKS: return x.lacks(a, b, c);
                case MEET: return x.meet(a);
                case BEST_END: return x.bestEnd();
                case WARM: return x.warm();
                case NAMES: return x.names(a, b);
                case SEE: return x.see(a, b);
                case COULD: return x.could();
                case LOOK_AT: return x.lookAt();
                case WRITE: return x.write(a, b);
                case JUDGE: return x.judge();
                case TEAR: return x.tear();
                case SEED: return x.seed(a);
                case KEEP: return x.keep(a);
                default: return x.goBack(a);
            }
        }

        int of(Oracle y, int a, int b, int c) {
            switch (this) {
                case FEED: return y.feed(a);
                case TOWN: return y.town();
                case FAULT: return y.fault();
                case TOLD: return y.told(a);
                case NEAR: return y.near(a, b);
                case AT: return y.at(a);
                case LINE: return y.line(a, b);
                case RIDE: return y.ride(a, b, c);
                case SLEEP: return y.sleep(a, b);
                case MORNING: return y.morning(a);
                case END: return y.end(a, b);
                case DIE: return y.die(a);
                case DRIFT: return y.drift(a);
                case UNDO: return y.undo(a);
                case WAYS: return y.ways(a, b, c);
                case REACHED: return y.reached(a);
                case CUTS: return y.cuts(a, b);
                case LACKS: return y.lacks(a, b, c);
                case MEET: return y.meet(a);
                case BEST_END: return y.bestEnd();
                case WARM: return y.warm();
                case NAMES: return y.names(a, b);
                case SEE: return y.see(a, b);
                case COULD: return y.could();
                case LOOK_AT: return y.lookAt();
                case WRITE: return y.write(a, b);
                case JUDGE: return y.judge();
                case TEAR: return y.tear();
                case SEED: return y.seed(a);
                case KEEP: return y.keep(a);
                default: return y.goBack(a);
            }
        }
    }
}
