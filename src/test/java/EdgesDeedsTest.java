import java.util.ArrayList;
import java.util.List;

/** The edges that section 2, UNDONE, BY DRAWS and promises 9 to 15 name, sentence by sentence. */
public final class EdgesDeedsTest {
    private static final int LEAST = Integer.MIN_VALUE, MOST = Integer.MAX_VALUE;

    public static void main(String[] args) {
        nearEnough();
        ownGateOnTheWay();
        theDead();
        rideOfNStops();
        rideStays();
        rideIsRefused();
        sleepToTheEnd();
        sleepNineAtMost();
        sleepIsRefused();
        ridesCountBoth();
        morningNearer();
        morningNineAtMost();
        morningOfTheDead();
        morningNumbers();
        daysAbove9000();
        endChanges();
        endIsRefused();
        endCountsAtOnce();
        die();
        driftNumbers();
        draws();
        driftAsFarAsItMay();
        driftWithoutLines();
        driftOfTheDead();
        undoNumbers();
        undoThirtyAtMost();
        undoInTurn();
        undoSinceTextOrImage();
        undoTheSeedStays();
        Check.finish();
    }

    /** Person 6 is brought to stop k - 1 without a fare, and is n near to all. */
    private static void nearEnough() {
        Check.of("STOP k of a LINE may be gone on to by who is NEAR its PERSON by k times D or more");
        for (int fare = 0; fare <= 3; fare++) {
            for (int k = 1; k <= 5; k++) {
                for (int n = 0; n <= 9; n++) {
                    String sixth = ("p" + (n + ",").repeat(6)).replaceAll(",$", ";");
                    PersonLines x = Check.town(Check.persons(6, 0) + sixth + "l" + fare + " 0,1,2,3,4,5;l0 6," + (k - 1) + ";");
                    Check.due("brought there", x.ride(6, 1, 1), k - 1);
                    int due = n >= k * fare ? k : k - 1;
                    Check.due("fare " + fare + ", stop " + k + ", near " + n, x.ride(6, 0, 1), due);
                }
            }
        }
    }

    private static void ownGateOnTheWay() {
        Check.of("a PERSON to itself by 9");
        // Stop 3 for 9 may be gone on to, were it the rider's own; stop 4 for 12 never.
        PersonLines x = Check.town(Check.persons(5, 9) + "l3 0,1,2,3,4;l0 3,0;l0 4,0;l0 3,2;");
        x.ride(3, 3, 1);
        Check.due("3 times 3 is 9", x.ride(3, 0, 5), 3);
        Check.due("4 times 3 is more than any", x.ride(3, 0, 5), 3);
        PersonLines own = Check.town(Check.persons(5, 9) + "l3 0,1,2,3,4;l0 4,3;");
        own.ride(4, 1, 1);
        Check.due("more than one is to oneself", own.ride(4, 0, 5), 3);
    }

    private static void theDead() {
        Check.of("WHO is DEAD rides no more; he is NEAR as he was; his gate stands");
        PersonLines x = Check.town("p;p4;p5,6;l1 0,1,2;l1 1,2;");
        x.ride(0, 0, 1);
        x.die(0);
        x.die(1);
        Check.due("no ride", x.ride(0, 0, 1), Check.NOT);
        Check.due("no sleep", x.sleep(0, 0), Check.NOT);
        Check.due("near", x.near(0, 1), 4);
        Check.due("near, turned", x.near(2, 0), 5);
        Check.due("at", x.at(0), 1);
        PersonLines gate = Check.town("p;p4;p5,6;l1 0,1,2;");
        gate.die(1);
        gate.die(2);
        Check.due("past the dead to the dead", gate.ride(0, 0, 5), 2);
    }

    private static void rideOfNStops() {
        Check.of("Promise 9: A RIDE of n STOPS at most (1 .. 5)");
        String text = Check.persons(6, 9) + "l1 0,1,2,3,4,5;l0 1,0;";
        for (int n = 1; n <= 5; n++) {
            Check.due("from the first, " + n, Check.town(text).ride(0, 0, n), n);
            PersonLines x = Check.town(text);
            x.ride(0, 0, 2);
            Check.due("from the third, " + n, x.ride(0, 0, n), Math.min(2 + n, 5));
        }
        PersonLines x = Check.town(text);
        for (int n : new int[] {LEAST, -1, 0, 6, 7, MOST}) {
            Check.due("n = " + n, x.ride(0, 0, n), Check.OUTSIDE);
        }
        Check.due("a line of two, 5 stops", x.ride(1, 1, 5), 0);
    }

    private static void rideStays() {
        Check.of("it stays, if not even the next one may be gone on to");
        PersonLines x = Check.town("p;p2;p9,9;l3 0,1,2;");
        Check.due("stays", x.ride(0, 0, 1), 0);
        Check.due("though farther on it might", x.ride(0, 0, 5), 0);
        Check.due("also those by which it stays", x.told(4), 2);
        Check.due("can be undone", x.told(10), 2);
        Check.due("near as it was", x.near(0, 1), 2);
        Check.of("it goes on STOP by STOP, as long as it may");
        PersonLines y = Check.town("p;p9;p1,9;p9,9,9;l1 0,1,2,3;");
        Check.due("to the one ahead of which it may not", y.ride(0, 0, 5), 1);
        Check.due("stays there", y.ride(0, 0, 5), 1);
    }

    private static void rideIsRefused() {
        Check.of("Promise 9: UNKNOWN, OUTSIDE, NOT: it is DEAD; the LINE does not STOP there, or last");
        PersonLines x = Check.town("p;p9;p9,9;p9,9,9;l0 0,1,2;l0 2,0;");
        for (int wrong : new int[] {LEAST, -1, 4, 8, MOST}) {
            Check.due("person " + wrong, x.ride(wrong, 0, 1), Check.UNKNOWN);
            Check.due("line " + wrong, x.ride(0, wrong, 1), Check.UNKNOWN);
            Check.due("both", x.ride(wrong, wrong, 1), Check.UNKNOWN);
        }
        Check.due("line 2 of 2", x.ride(0, 2, 1), Check.UNKNOWN);
        Check.due("last", x.ride(2, 0, 1), Check.NOT);
        Check.due("not there", x.ride(3, 0, 1), Check.NOT);
        Check.due("not there", x.ride(1, 1, 1), Check.NOT);
        x.ride(0, 0, 5);
        Check.due("last, come by it", x.ride(0, 0, 1), Check.NOT);
        Check.due("first there", x.ride(0, 1, 1), 0);
        x.die(0);
        Check.due("dead", x.ride(0, 0, 1), Check.NOT);
        Check.due("rides", x.told(4), 2);
    }

    private static void sleepToTheEnd() {
        Check.of("ASLEEP: it goes to the last STOP, whatever it is to whom; it is one NEARER to the PERSON there, if that one lives");
        PersonLines x = Check.town(Check.persons(6, 0) + "l3 0,1,2,3,4,5;");
        Check.due("from the first", x.sleep(0, 0), 1);
        Check.due("from the last but one", x.sleep(4, 0), 1);
        Check.due("at", x.at(0), 5);
        Check.due("at", x.at(4), 5);
        for (int q = 1; q < 5; q++) {
            Check.due("not to who is passed", x.near(0, q), 0);
        }
        Check.due("alike", x.near(5, 0), 1);
        PersonLines dead = Check.town("p;p4;p0,0;l3 0,1;");
        dead.die(1);
        Check.due("that one is dead", dead.sleep(0, 0), 4);
        Check.due("at his gate all the same", dead.at(0), 1);
        PersonLines passed = Check.town("p;p4;p2,0;l3 0,1,2;");
        passed.die(1);
        Check.due("past the dead", passed.sleep(0, 0), 3);
        PersonLines others = Check.town("p;p4;p2,6;p5,0,0;l3 0,1;l3 2,0;l3 3,2;");
        others.die(1);
        Check.due("by another line to another one", others.sleep(2, 1), 3);
        Check.due("at", others.at(2), 0);
        others.die(2);
        Check.due("to the dead by another line", others.sleep(3, 2), 0);
        Check.due("not to who is dead", others.near(1, 2), 6);
        PersonLines changed = Check.town("p;p4;p2,0;l3 0,1;");
        changed.end(0, 2);
        Check.due("to the end as it is now", changed.sleep(0, 0), 3);
        Check.due("at", changed.at(0), 2);
    }

    private static void sleepNineAtMost() {
        Check.of("(9 at most)");
        PersonLines x = Check.town("p;p8;l3 0,1;l0 1,0;");
        Check.due("8 becomes 9", x.sleep(0, 0), 9);
        Check.due("to itself, 9", x.sleep(0, 1), 9);
        Check.due("9 stays", x.sleep(0, 0), 9);
        Check.due("alike", x.near(1, 0), 9);
        Check.due("together", x.told(7), 9);
        Check.due("itself", x.near(0, 0), 9);
    }

    private static void sleepIsRefused() {
        Check.of("Promise 10: UNKNOWN, NOT: as ride()");
        PersonLines x = Check.town("p;p9;p9,9;p9,9,9;l0 0,1,2;");
        for (int wrong : new int[] {LEAST, -1, 4, 8, MOST}) {
            Check.due("person " + wrong, x.sleep(wrong, 0), Check.UNKNOWN);
            Check.due("line " + wrong, x.sleep(0, wrong), Check.UNKNOWN);
        }
        Check.due("line 1 of 1", x.sleep(0, 1), Check.UNKNOWN);
        Check.due("last", x.sleep(2, 0), Check.NOT);
        Check.due("not there", x.sleep(3, 0), Check.NOT);
        x.die(0);
        Check.due("dead", x.sleep(0, 0), Check.NOT);
        Check.due("rides", x.told(4), 0);
        Check.due("undone", x.told(10), 1);
    }

    private static void ridesCountBoth() {
        Check.of("RIDES count both (also those by which it stays)");
        PersonLines x = Check.town("p;p0;l3 0,1;l0 1,0;");
        x.ride(0, 0, 1);
        Check.due("stayed", x.told(4), 1);
        x.sleep(0, 0);
        Check.due("slept", x.told(4), 2);
        x.ride(0, 1, 1);
        Check.due("rode", x.told(4), 3);
        x.ride(0, 1, 1);
        Check.due("was refused", x.told(4), 3);
        x.morning(1);
        Check.due("a morning is none", x.told(4), 3);
        x.warm();
        Check.due("what is tried is none", x.told(4), 3);
    }

    private static void morningNearer() {
        Check.of("A MORNING: each two PERSONS (both alive) who are AT the same gate are one NEARER; "
                + "then all who live are AT their own gates. DAYS are counted");
        String lines = "l0 1,0;l0 2,0;l0 3,0;l0 4,0;l0 5,0;l0 6,0;";
        PersonLines x = Check.town(Check.persons(7, 0) + lines);
        for (int p = 1; p <= 6; p++) {
            x.ride(p, p - 1, 1);
        }
        Check.due("all seven are there", x.meet(0), 127);
        Check.due("21 pairs", x.morning(1), 21);
        for (int p = 0; p < 7; p++) {
            Check.due("home", x.at(p), p);
        }
        Check.due("a day", x.told(3), 1);
        Check.due("at home, none nearer", x.morning(1), 21);
        Check.due("two days", x.told(3), 2);
        PersonLines away = Check.town("p;p0;p0,0;l0 0,2;l0 1,2;");
        away.ride(0, 0, 1);
        away.ride(1, 1, 1);
        away.die(2);
        Check.due("two at a third one's gate", away.morning(1), 1);
        Check.due("they", away.near(0, 1), 1);
    }

    private static void morningNineAtMost() {
        Check.of("are one NEARER (9 at most)");
        PersonLines x = Check.town("p;p8;p9,0;l0 0,1;l0 2,1;");
        for (int day = 0; day < 2; day++) {
            x.ride(0, 0, 1);
            x.ride(2, 1, 1);
            x.morning(1);
        }
        Check.due("8 is 9", x.near(0, 1), 9);
        Check.due("9 is 9", x.near(2, 0), 9);
        Check.due("0 is 2", x.near(1, 2), 2);
        Check.due("itself is 9", x.near(1, 1), 9);
    }

    private static void morningOfTheDead() {
        Check.of("(both alive); all who live are AT their own gates");
        PersonLines x = Check.town("p;p0;p0,0;l0 0,2;l0 1,2;");
        x.ride(0, 0, 1);
        x.ride(1, 1, 1);
        x.die(0);
        Check.due("only 1 and 2", x.morning(1), 1);
        Check.due("1 and 2", x.near(1, 2), 1);
        Check.due("the dead stays AT", x.at(0), 2);
        Check.due("the other is home", x.at(1), 1);
        Check.due("again", x.morning(30), 1);
        Check.due("the dead stays AT", x.at(0), 2);
    }

    private static void morningNumbers() {
        Check.of("Promise 11: n MORNINGS (1 .. 30): how NEAR all are together. OUTSIDE, NOT: no TOWN");
        PersonLines x = Check.town("p;p3;p0,4;l0 0,1;");
        for (int n : new int[] {LEAST, -1, 0, 31, 32, MOST}) {
            Check.due("n = " + n, x.morning(n), Check.OUTSIDE);
        }
        Check.due("no days", x.told(3), 0);
        x.ride(0, 0, 1);
        Check.due("1", x.morning(1), 8);
        x.ride(0, 0, 1);
        Check.due("30: nearer by the first alone", x.morning(30), 9);
        Check.due("days", x.told(3), 31);
        PersonLines none = new PersonLines();
        Check.due("no town", none.morning(1), Check.NOT);
        Check.due("no town, 30", none.morning(30), Check.NOT);
        Check.due("no days", none.told(3), 0);
        Check.due("one person", Check.town("p;").morning(30), 0);
    }

    private static PersonLines daysOf(int days) {
        PersonLines x = Check.town("p;p4;l0 0,1;");
        for (int day = 0; day < days; day += 30) {
            x.morning(Math.min(30, days - day));
        }
        Check.due("days", x.told(3), days);
        return x;
    }

    private static void daysAbove9000() {
        Check.of("Promise 11: FULL: DAYS are above 9000");
        Check.due("8999 are not", daysOf(8999).morning(30), 4);
        PersonLines x = daysOf(9000);
        Check.due("9000 are not", x.morning(1), 4);
        Check.due("9001 are", x.morning(1), Check.FULL);
        Check.due("9001 are, for 30", x.morning(30), Check.FULL);
        Check.due("days", x.told(3), 9001);
        Check.of("Promise 14: FULL: DAYS are above 9000");
        Check.due("9001 are", x.drift(1), Check.FULL);
        Check.due("9001 are, for 30", x.drift(30), Check.FULL);
        Check.due("other deeds go on", x.ride(0, 0, 1), 1);
        Check.due("undone twice", x.undo(2), 9000);
        int rides = x.told(4);
        Check.due("9000 are not", x.drift(30) >= rides ? 1 : 0, 1);
        Check.due("days", x.told(3), 9030);
        Check.due("9030 are", x.drift(1), Check.FULL);
    }

    private static void endChanges() {
        Check.of("Promise 12: The END of a LINE changes: who it was");
        PersonLines x = Check.town(Check.persons(8, 0) + "l0 0,1;l0 0,1,2,3,4,5;");
        Check.due("of two stops", x.end(0, 7), 1);
        Check.due("of six stops", x.end(1, 6), 5);
        Check.due("who it was is no STOP any more", x.end(1, 5), 6);
        Check.due("in turn", x.end(0, 1), 7);
        x.die(7);
        Check.due("in the dead", x.end(0, 7), 1);
        Check.due("the other line is as it was", x.line(1, 5), 5);
        Check.due("how many stops", x.line(0, -1), 2);
        Check.due("each can be undone", x.told(10), 6);
    }

    private static void endIsRefused() {
        Check.of("Promise 12: UNKNOWN, NOT: it is a STOP of it");
        PersonLines x = Check.town(Check.persons(7, 0) + "l0 0,1,2,3,4,5;l0 0,1;");
        for (int wrong : new int[] {LEAST, -2, -1, 7, 8, MOST}) {
            Check.due("line " + wrong, x.end(wrong, 6), Check.UNKNOWN);
            Check.due("person " + wrong, x.end(0, wrong), Check.UNKNOWN);
            Check.due("both", x.end(wrong, wrong), Check.UNKNOWN);
        }
        Check.due("line 2 of 2", x.end(2, 6), Check.UNKNOWN);
        for (int p = 0; p < 6; p++) {
            Check.due("stop " + p + ", the END, too", x.end(0, p), Check.NOT);
        }
        Check.due("undone", x.told(10), 0);
        x.end(0, 6);
        Check.due("the END that it is now", x.end(0, 6), Check.NOT);
    }

    private static void endCountsAtOnce() {
        Check.of("the last STOP of a LINE is another PERSON");
        PersonLines x = Check.town("p;p9;p9,9;l0 0,1;");
        x.ride(0, 0, 1);
        Check.due("last there", x.ride(0, 0, 1), Check.NOT);
        x.end(0, 2);
        Check.due("it does not STOP there any more", x.ride(0, 0, 1), Check.NOT);
        x.morning(1);
        Check.due("to the other one", x.ride(0, 0, 1), 2);
        Check.due("lacks", x.lacks(1, 2, 0), Check.NONE);
        PersonLines fare = Check.town("p;p9;p1,9;l2 0,1;");
        fare.end(0, 2);
        Check.due("by how NEAR one is to the other one", fare.ride(0, 0, 1), 0);
    }

    private static void die() {
        Check.of("Promise 13: A PERSON dies: how many are DEAD. UNKNOWN, NOT: it is DEAD");
        PersonLines x = Check.town(Check.persons(8, 3));
        for (int wrong : new int[] {LEAST, -1, 8, 9, 31, 32, 64, MOST}) {
            Check.due("person " + wrong, x.die(wrong), Check.UNKNOWN);
        }
        for (int p = 0; p < 8; p++) {
            Check.due("dies", x.die(7 - p), p + 1);
            Check.due("dies twice", x.die(7 - p), Check.NOT);
        }
        Check.due("all are dead", x.told(5), 255);
        Check.due("no pairs", x.told(6), 0);
        Check.due("mornings of the dead", x.morning(30), 84);
        Check.due("days", x.told(3), 30);
        Check.due("days by draws", x.drift(30), 0);
        Check.due("warm", x.warm(), 0);
        Check.due("undone: days", x.undo(30), 30);
        Check.due("meet", x.meet(0), 0);
        Check.due("new object", new PersonLines().die(0), Check.UNKNOWN);
    }

    private static void driftNumbers() {
        Check.of("Promise 14: n DAYS BY DRAWS (1 .. 30): RIDES. OUTSIDE, NOT: no TOWN");
        PersonLines x = Check.town(Check.FOUR);
        for (int n : new int[] {LEAST, -1, 0, 31, 32, MOST}) {
            Check.due("n = " + n, x.drift(n), Check.OUTSIDE);
        }
        Check.due("seed as it was", x.seed(0), 0);
        Check.due("1", x.drift(1), x.told(4));
        Check.due("days", x.told(3), 1);
        Check.due("30", x.drift(30), x.told(4));
        Check.due("days", x.told(3), 31);
        PersonLines none = new PersonLines();
        none.seed(5);
        Check.due("no town", none.drift(1), Check.NOT);
        Check.due("no town, 30", none.drift(30), Check.NOT);
        Check.due("seed as it was", none.seed(0), 5);
    }

    private static long drawn(long seed) {
        return (seed * 1103515245L + 12345L) % 2147483648L;
    }

    /** One person, one line: each day is one draw of 1 and one of 20; asleep it comes nearer, and is met there. */
    private static void draws() {
        Check.of("each DRAW it becomes it times 1103515245 and 12345, left over by 2 to the 31; the DRAW of n is it / 65536, "
                + "left over by n; of 20: 0: ASLEEP; else a RIDE as far as it may");
        int asleep = 0;
        for (int i = 0; i < 200; i++) {
            int start = i == 0 ? MOST : i == 1 ? 0 : i == 2 ? 1 : (int) (i * 10737419L % 2147483648L);
            PersonLines x = Check.town("p;p0;l1 0,1;");
            x.die(1);
            x.seed(start);
            int rides = x.drift(1);
            Check.due("a ride, or one by which it stays", rides, 1);
            long second = drawn(drawn(start));
            Check.due("two draws from " + start, x.seed(0), second);
            PersonLines y = Check.town("p;p0;p0,0;l1 0,1;");
            y.die(2);
            y.seed(start);
            y.drift(1);
            boolean slept = second / 65536 % 20 == 0;
            asleep += slept ? 1 : 0;
            // Asleep 0 is nearer at once, and meets 1 in the morning; awake it stays, and meets nobody.
            Check.due("nearer, if asleep, from " + start, y.near(0, 1), slept ? 2 : 0);
            Check.due("four draws", y.seed(0), drawn(drawn(second)));
        }
        Check.due("some slept", asleep > 2 ? 1 : 0, 1);
    }

    private static void driftAsFarAsItMay() {
        Check.of("else a RIDE as far as it may");
        PersonLines x = Check.town("p;p5;p5,9;p5,9,9;p5,9,9,9;p5,9,9,9,9;l1 0,1,2,3,4,5;");
        x.seed(1);
        Check.due("all but the last ride", x.drift(1), 5);
        Check.due("0 came to the sixth STOP", x.near(0, 5), 6);
        Check.due("and met all there", x.near(0, 1), 6);
        PersonLines less = Check.town("p;p5;p5,9;p5,9,9;p5,9,9,9;p4,9,9,9,9;l1 0,1,2,3,4,5;");
        less.seed(1);
        less.drift(1);
        Check.due("0 came to the fifth", less.near(0, 5), 4);
        Check.due("and met nobody there", less.near(0, 4), 5);
    }

    private static void driftWithoutLines() {
        Check.of("PERSON by PERSON that lives, if there are LINES; then the MORNING");
        PersonLines x = Check.town("p;p3;");
        x.seed(9);
        Check.due("no rides", x.drift(30), 0);
        Check.due("no draws", x.seed(0), 9);
        Check.due("days", x.told(3), 30);
        Check.due("can be undone", x.told(10), 30);
        PersonLines away = Check.town("p;p3;l0 0,1;");
        away.sleep(0, 0);
        away.die(0);
        away.drift(1);
        Check.due("the dead stays AT", away.at(0), 1);
        Check.due("one who lives: two draws", away.seed(0), drawn(drawn(0)));
    }

    private static void driftOfTheDead() {
        Check.of("(if that LINE STOPS where it is AT, but not last)");
        PersonLines x = Check.town("p;p3;p0,0;l0 0,1;");
        x.die(0);
        Check.due("last for 1, not there for 2: no rides", x.drift(30), 0);
        Check.due("near", x.told(7), 3);
        long seed = 0;
        for (int i = 0; i < 120; i++) {
            seed = drawn(seed);
        }
        Check.due("two draws a day for both", x.seed(0), seed);
    }

    private static void undoNumbers() {
        Check.of("Promise 15: The n latest (1 .. 30) are undone: DAYS. OUTSIDE, NOT: not so many");
        PersonLines x = Check.town("p;p3;");
        for (int n : new int[] {LEAST, -1, 0, 31, 32, MOST}) {
            Check.due("n = " + n, x.undo(n), Check.OUTSIDE);
        }
        Check.due("1 of none", x.undo(1), Check.NOT);
        Check.due("30 of none", x.undo(30), Check.NOT);
        x.morning(30);
        Check.due("31 of 30", x.undo(31), Check.OUTSIDE);
        Check.due("30 of 30", x.undo(30), 0);
        x.morning(29);
        Check.due("30 of 29", x.undo(30), Check.NOT);
        Check.due("as it was", x.told(10), 29);
        Check.due("1 of 29", x.undo(1), 28);
        Check.due("28 of 28", x.undo(28), 0);
        Check.due("1 of none", x.undo(1), Check.NOT);
        Check.due("no town", new PersonLines().undo(1), Check.NOT);
    }

    private static void undoThirtyAtMost() {
        Check.of("(30 at most are kept)");
        for (int deeds = 0; deeds <= 95; deeds++) {
            PersonLines x = Check.town("p;p3;");
            for (int i = 0; i < deeds; i++) {
                x.morning(1);
            }
            int kept = Math.min(deeds, 30);
            Check.due("kept of " + deeds, x.told(10), kept);
            if (kept < 30) {
                Check.due("one more than kept", x.undo(kept + 1), Check.NOT);
            }
            if (kept > 0) {
                Check.due("all that is kept", x.undo(kept), deeds - kept);
            }
            Check.due("none is left", x.undo(1), Check.NOT);
            Check.due("none is left", x.told(10), 0);
        }
    }

    /** Deeds and undoing in turn, past the thirtieth again and again, against a list of days. */
    private static void undoInTurn() {
        Check.of("UNDONE: the latest deeds: all of section 2 is as ahead of them");
        PersonLines x = Check.town("p;p3;p0,0;l0 0,1;");
        List<int[]> former = new ArrayList<>();
        int[] now = {0, 1, 0};
        for (int i = 0; i < 150; i++) {
            former.add(now.clone());
            if (i % 3 == 0) {
                x.morning(1);
                now[0]++;
            } else if (i % 3 == 1) {
                now[1] = 3 - now[1];
                x.end(0, now[1]);
            } else if (x.die(2) == 1) {
                now[2] = 4;
            } else {
                former.remove(former.size() - 1);
            }
            int n = 1 + i * 7 % 5;
            int kept = Math.min(30, former.size());
            if (i % 11 == 0 && n <= kept) {
                now = former.get(former.size() - n);
                former = new ArrayList<>(former.subList(former.size() - kept, former.size() - n));
                Check.due("days", x.undo(n), now[0]);
            }
            Check.due("end", x.line(0, 1), now[1]);
        }
        Check.due("the dead", x.told(5), now[2]);
        Check.due("kept", x.told(10), Math.min(30, former.size()));
    }

    private static void undoSinceTextOrImage() {
        Check.of("since the text or IMAGE");
        PersonLines x = Check.town("p;p3;");
        x.morning(5);
        x.keep(0);
        Check.due("kept: none", x.undo(1), Check.NOT);
        x.morning(2);
        x.goBack(0);
        Check.due("gone back: none", x.undo(1), Check.NOT);
        x.morning(3);
        Check.due("since then three", x.undo(4), Check.NOT);
        Check.due("three", x.undo(3), 5);
        x.morning(1);
        Check.feedAll(x, "p;p;");
        x.town();
        Check.due("a text with a fault is none", x.told(10), 1);
        Check.feedAll(x, "p;p3;");
        x.town();
        Check.due("another text: none", x.undo(1), Check.NOT);
    }

    private static void undoTheSeedStays() {
        Check.of("THE SEED stays");
        PersonLines x = Check.town(Check.FOUR);
        x.seed(3);
        x.drift(2);
        int rides = x.told(4);
        x.drift(5);
        int seed = x.seed(0);
        x.seed(seed);
        Check.due("five days undone", x.undo(5), 2);
        Check.due("rides as they were", x.told(4), rides);
        Check.due("seed", x.seed(0), seed);
    }
}
