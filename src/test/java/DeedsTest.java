/** Promises 9 to 15: rides, sleepers, mornings, ends, the dead, days by draws, undone. */
public final class DeedsTest {
    public static void main(String[] args) {
        ride();
        rideStays();
        sleep();
        morning();
        daysEnd();
        end();
        die();
        drift();
        driftByHand();
        driftToTheSixth();
        driftWithoutLines();
        undo();
        undoKeepsThirty();
        undoEachDeed();
        Check.finish();
    }

    private static void ride() {
        PersonLines x = Check.town("p;p9;p9,0;p9,0,0;p2,0,0,0;l1 1,0,2,3,4;l0 4,3,2,1;");
        Check.due("ride -1", x.ride(-1, 0, 0), Check.UNKNOWN);
        Check.due("ride line 2", x.ride(0, 2, 0), Check.UNKNOWN);
        Check.due("ride line -1", x.ride(0, -1, 1), Check.UNKNOWN);
        Check.due("ride 0 stops", x.ride(0, 0, 0), Check.OUTSIDE);
        Check.due("ride 6 stops", x.ride(0, 0, 6), Check.OUTSIDE);
        Check.due("ride where it does not stop", x.ride(0, 1, 1), Check.NOT);
        Check.due("ride where it stops last", x.ride(1, 1, 1), Check.NOT);
        Check.due("no rides", x.told(4), 0);
        Check.due("nothing undone", x.told(10), 0);
        Check.due("one stop", x.ride(0, 0, 1), 2);
        Check.due("another", x.ride(0, 0, 5), 3);
        Check.due("stays: 4 times the fare is more than 2", x.ride(0, 0, 5), 3);
        Check.due("rides", x.told(4), 3);
        Check.due("back", x.ride(0, 1, 1), 2);
        Check.due("at", x.at(0), 2);
        Check.due("two stops, by no fare", x.ride(4, 1, 2), 2);
        x.die(4);
        Check.due("the dead ride no more", x.ride(4, 1, 1), Check.NOT);
        Check.due("outside goes ahead of not", x.ride(4, 1, 9), Check.OUTSIDE);
    }

    private static void rideStays() {
        PersonLines x = Check.town("p;p1;p9,9;l2 0,1,2;");
        Check.due("stays", x.ride(0, 0, 5), 0);
        Check.due("counts", x.told(4), 1);
        Check.due("can be undone", x.told(10), 1);
        PersonLines own = Check.town("p;p0;p9,0;l0 2,1;l3 1,2,0;");
        Check.due("away by no fare", own.ride(2, 0, 1), 1);
        Check.due("to its own gate", own.ride(2, 1, 1), 2);
        Check.due("and on, for twice the fare", own.ride(2, 1, 1), 0);
        PersonLines dead = Check.town("p;p5;l1 0,1;");
        dead.die(1);
        Check.due("the gate of the dead stands", dead.ride(0, 0, 1), 1);
    }

    private static void sleep() {
        PersonLines x = Check.town("p;p1;p0,8;l3 0,1,2;l0 1,0;l0 2,0;");
        Check.due("sleep -1", x.sleep(-1, 0), Check.UNKNOWN);
        Check.due("sleep line 3", x.sleep(0, 3), Check.UNKNOWN);
        Check.due("sleep where it does not stop", x.sleep(0, 2), Check.NOT);
        Check.due("sleep where it stops last", x.sleep(2, 0), Check.NOT);
        Check.due("sleep to the end", x.sleep(0, 0), 1);
        Check.due("at", x.at(0), 2);
        Check.due("alike", x.near(2, 0), 1);
        Check.due("not to who is passed", x.near(0, 1), 1);
        Check.due("rides", x.told(4), 1);
        Check.due("nine", x.sleep(1, 0), 9);
        Check.due("from the middle, at his own gate", x.sleep(0, 2), 9);
        Check.due("at his own", x.at(0), 0);
        x.die(1);
        Check.due("the dead don't sleep", x.sleep(1, 1), Check.NOT);
        PersonLines dead = Check.town("p;p1;l3 0,1;");
        dead.die(1);
        Check.due("no nearer to the dead", dead.sleep(0, 0), 1);
        Check.due("at the gate of the dead", dead.at(0), 1);
        PersonLines most = Check.town("p;p9;l3 0,1;");
        Check.due("nine at most", most.sleep(0, 0), 9);
        Check.due("nine both ways", most.near(1, 0), 9);
    }

    private static void morning() {
        PersonLines x = Check.town("p;p4;p9,5;p0,0,0;l0 0,2;l0 1,2;l0 3,2;");
        Check.due("morning 0", x.morning(0), Check.OUTSIDE);
        Check.due("morning 31", x.morning(31), Check.OUTSIDE);
        x.ride(0, 0, 1);
        x.ride(1, 1, 1);
        x.ride(3, 2, 1);
        x.die(3);
        Check.due("morning", x.morning(1), 20);
        Check.due("0 and 1", x.near(0, 1), 5);
        Check.due("0 and 2, nine at most", x.near(0, 2), 9);
        Check.due("2 and 1", x.near(2, 1), 6);
        Check.due("none with the dead", x.near(3, 2), 0);
        Check.due("home", x.at(0), 0);
        Check.due("the dead stays", x.at(3), 2);
        Check.due("days", x.told(3), 1);
        Check.due("more mornings, all at home", x.morning(30), 20);
        Check.due("days", x.told(3), 31);
    }

    private static void daysEnd() {
        PersonLines x = Check.town("p;p4;");
        for (int i = 0; i < 300; i++) {
            x.morning(30);
        }
        Check.due("days", x.told(3), 9000);
        Check.due("outside goes ahead of full", x.drift(31), Check.OUTSIDE);
        Check.due("9000 is not above", x.drift(1), 0);
        Check.due("9001 is: morning", x.morning(1), Check.FULL);
        Check.due("9001 is: drift", x.drift(30), Check.FULL);
        Check.due("undo", x.undo(2), 8999);
        Check.due("30 at once", x.morning(30), 4);
        Check.due("days", x.told(3), 9029);
        Check.due("full", x.morning(30), Check.FULL);
    }

    private static void end() {
        PersonLines x = Check.town(Check.FOUR);
        Check.due("end of line 4", x.end(4, 0), Check.UNKNOWN);
        Check.due("end in 4", x.end(0, 4), Check.UNKNOWN);
        Check.due("end in -1", x.end(0, -1), Check.UNKNOWN);
        Check.due("end in its end", x.end(0, 3), Check.NOT);
        Check.due("end in its first", x.end(0, 0), Check.NOT);
        Check.due("nothing undone", x.told(10), 0);
        Check.due("end", x.end(0, 2), 3);
        Check.due("end again", x.end(0, 3), 2);
        x.die(2);
        Check.due("end in the dead", x.end(0, 2), 3);
        Check.due("stops", x.line(0, -1), 3);
        Check.due("ride to it", x.ride(0, 0, 5), 2);
        Check.due("last there", x.ride(0, 0, 1), Check.NOT);
    }

    private static void die() {
        PersonLines x = Check.town(Check.FOUR);
        Check.due("die -1", x.die(-1), Check.UNKNOWN);
        Check.due("die 4", x.die(4), Check.UNKNOWN);
        x.ride(0, 1, 1);
        Check.due("die", x.die(0), 1);
        Check.due("twice", x.die(0), Check.NOT);
        Check.due("another", x.die(3), 2);
        Check.due("the dead", x.told(5), 9);
        Check.due("near as he was", x.near(0, 2), 5);
        Check.due("at as he was", x.at(0), 2);
    }

    private static void drift() {
        PersonLines x = Check.town(Check.FOUR);
        Check.due("drift 0", x.drift(0), Check.OUTSIDE);
        Check.due("drift 31", x.drift(31), Check.OUTSIDE);
        x.seed(77);
        x.ride(0, 1, 1);
        Check.due("drift", x.drift(6), 15);
        Check.due("can be undone", x.told(10), 7);
        Check.due("seed", x.seed(0), 659699613);
        x.die(0);
        x.die(1);
        x.die(2);
        x.die(3);
        Check.due("none rides", x.drift(30), 15);
        Check.due("none draws", x.seed(0), 0);
        Check.due("days", x.told(3), 36);
    }

    /** Each day's draws reckoned here from the document's words, and the deeds done by the other calls. */
    private static void driftByHand() {
        for (int start = 0; start < 40; start++) {
            PersonLines x = Check.town(Check.FOUR);
            PersonLines y = Check.town(Check.FOUR);
            long seed = 2147483647L - start * 53681091L;
            x.seed((int) seed);
            x.die(start % 4);
            y.die(start % 4);
            x.drift(20);
            for (int day = 0; day < 20; day++) {
                for (int p = 0; p < 4; p++) {
                    if (p == start % 4) {
                        continue;
                    }
                    seed = (seed * 1103515245L + 12345L) % (1L << 31);
                    int l = (int) (seed / 65536 % 4);
                    seed = (seed * 1103515245L + 12345L) % (1L << 31);
                    if (seed / 65536 % 20 == 0) {
                        y.sleep(p, l);
                    } else {
                        y.ride(p, l, 5);
                    }
                }
                y.morning(1);
            }
            for (int p = 0; p < 4; p++) {
                for (int q = 0; q < 4; q++) {
                    Check.due("drifted near", x.near(p, q), y.near(p, q));
                }
            }
            Check.due("drifted rides", x.told(4), y.told(4));
            Check.due("drifted seed", x.seed(0), seed);
        }
    }

    private static void driftToTheSixth() {
        PersonLines x = Check.town("p;p5;p5,9;p5,9,9;p5,9,9,9;p5,9,9,9,9;l1 0,1,2,3,4,5;");
        x.seed(1);
        Check.due("all but the last ride", x.drift(1), 5);
        Check.due("0 came to 5", x.near(0, 5), 6);
        Check.due("and met 4 there", x.near(0, 4), 6);
        Check.due("nobody slept", x.told(7), 25 + 90 + 5);
    }

    private static void driftWithoutLines() {
        PersonLines x = Check.town("p;p3;");
        x.seed(9);
        Check.due("drift without lines", x.drift(3), 0);
        Check.due("draws nothing", x.seed(0), 9);
        Check.due("days", x.told(3), 3);
        Check.due("mornings at home", x.told(7), 3);
    }

    private static void undo() {
        PersonLines x = Check.town(Check.FOUR);
        Check.due("undo 0", x.undo(0), Check.OUTSIDE);
        Check.due("undo 31", x.undo(31), Check.OUTSIDE);
        Check.due("undo of nothing", x.undo(1), Check.NOT);
        x.morning(3);
        Check.due("undo 4 of 3", x.undo(4), Check.NOT);
        Check.due("undo 2 of 3", x.undo(2), 1);
        Check.due("left", x.told(10), 1);
        x.drift(2);
        int seed = x.seed(0);
        x.seed(seed);
        Check.due("undo 2 days by draws", x.undo(2), 1);
        Check.due("the seed stays", x.seed(0), seed);
        Check.due("rides are undone", x.told(4), 0);
        x.see(0, 1);
        x.write(0, 1);
        Check.due("undo the first", x.undo(1), 0);
        Check.due("seen stays", x.told(8), 1);
        Check.due("the book stays", x.told(9), 1);
    }

    private static void undoKeepsThirty() {
        PersonLines x = Check.town("p;p4;p4,4;l0 0,1;");
        x.morning(30);
        x.die(2);
        x.morning(15);
        Check.due("kept", x.told(10), 30);
        Check.due("undo 30", x.undo(30), 16);
        Check.due("still not more", x.undo(1), Check.NOT);
        Check.due("undone death", x.told(5), 0);
        x.ride(0, 0, 1);
        Check.due("undo behind it", x.undo(1), 16);
        Check.due("at", x.at(0), 0);
        x.die(1);
        for (int i = 0; i < 31; i++) {
            x.end(0, i % 2 == 0 ? 2 : 1);
        }
        Check.due("the death is no more kept", x.undo(30), 16);
        Check.due("dead", x.told(5), 2);
        Check.due("end", x.line(0, 1), 2);
    }

    private static void undoEachDeed() {
        PersonLines x = Check.town(Check.FOUR);
        x.ride(0, 1, 1);
        x.sleep(2, 2);
        x.end(3, 1);
        x.die(3);
        x.morning(1);
        Check.due("morning undone", x.undo(1), 0);
        Check.due("at", x.at(2), 1);
        x.undo(1);
        Check.due("death undone", x.told(5), 0);
        x.undo(1);
        Check.due("end undone", x.line(3, 1), 0);
        Check.due("near ahead", x.near(2, 1), 3);
        x.undo(1);
        Check.due("sleep undone", x.near(2, 1), 2);
        Check.due("sleep undone, alike", x.near(1, 2), 2);
        Check.due("at", x.at(2), 2);
        Check.due("rides", x.told(4), 1);
        x.undo(1);
        Check.due("ride undone", x.at(0), 0);
        Check.due("rides", x.told(4), 0);
    }
}
