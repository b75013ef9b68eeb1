/** The edges that section 3 names for what was seen, the book, the seed and images, and promises 24 to 32. */
public final class EdgesSeenTest {
    private static final int LEAST = Integer.MIN_VALUE, MOST = Integer.MAX_VALUE;
    private static final int[] WRONG = {LEAST, -1000000001, -2, -1, 4, 5, 8, 32, MOST};

    public static void main(String[] args) {
        seeSix();
        seeIsRefused();
        couldOfEachStop();
        couldNothingSeen();
        couldAllThatIsSeen();
        couldWhateverHappens();
        lookAtGreatestPart();
        lookAtOfLike();
        lookAtNone();
        writeTwenty();
        writeIsRefused();
        judgeFirst();
        judgeAsItIsNow();
        judgeNone();
        tear();
        seedBounds();
        seedWraps();
        keepIsRefused();
        keepNothingToUndo();
        keepAgain();
        keepWithoutTown();
        goBackIsRefused();
        goBackToAllOfSection2();
        goBackAgainAndAgain();
        imagesAreGone();
        Check.finish();
    }

    private static void seeSix() {
        Check.of("SEEN (6 at most). Promise 24: how much; FULL (6)");
        PersonLines x = Check.town(Check.FOUR);
        for (int n = 1; n <= 6; n++) {
            Check.due("see", x.see(n % 4, n % 2), n);
            Check.due("seen", x.told(8), n);
        }
        Check.due("a seventh", x.see(0, 0), Check.FULL);
        Check.due("seen", x.told(8), 6);
        x.tear();
        Check.due("the first again", x.see(0, 0), 1);
    }

    private static void seeIsRefused() {
        Check.of("Promise 24: UNKNOWN, OUTSIDE (a STOP that there is not)");
        PersonLines x = Check.town(Check.FOUR);
        for (int wrong : WRONG) {
            Check.due("line " + wrong, x.see(wrong, 0), Check.UNKNOWN);
        }
        for (int k : new int[] {LEAST, -2, -1, 3, 4, 5, 6, MOST}) {
            Check.due("stop " + k + " of 3", x.see(0, k), Check.OUTSIDE);
        }
        Check.due("stop 2 of 2", x.see(1, 2), Check.OUTSIDE);
        Check.due("stop 2 of 3", x.see(0, 2), 1);
        Check.due("stop 0 of 2", x.see(1, 0), 2);
        PersonLines six = Check.town(Check.persons(6, 0) + "l1 0,1,2,3,4,5;");
        Check.due("stop 5 of 6", six.see(0, 5), 1);
        Check.due("stop 6 of 6", six.see(0, 6), Check.OUTSIDE);
        Check.due("no town", new PersonLines().see(0, 0), Check.UNKNOWN);
        Check.due("no lines", Check.town("p;p0;").see(0, 0), Check.UNKNOWN);
    }

    /** The sets by fare and stop, for lines of two to six stops: written out, the last stop has all that is left. */
    private static void couldOfEachStop() {
        Check.of("(v, 0 .. 9), got on a LINE at its first STOP, off at STOP k, as far as it may. COULD BE: a SET of these");
        int[][] off = {
            {0b1111111111, 0b1111111111, 0b1111111111, 0b1111111111, 0b1111111111, 0b1111111111},
            {0b1111111111, 0b1111111110, 0b1111111100, 0b1111111000, 0b1111110000, 0b1111100000},
            {0b1111111111, 0b1111111100, 0b1111110000, 0b1111000000, 0b1100000000, 0b0000000000},
            {0b1111111111, 0b1111111000, 0b1111000000, 0b1000000000, 0b0000000000, 0b0000000000}};
        String stops = "0,1,2,3,4,5";
        for (int fare = 0; fare <= 3; fare++) {
            for (int size = 2; size <= 6; size++) {
                PersonLines x = Check.town(Check.persons(6, 0) + "l" + fare + " " + stops.substring(0, 2 * size - 1) + ";");
                for (int k = 0; k < size; k++) {
                    int farther = k + 1 < size ? off[fare][k + 1] : 0;
                    x.see(0, k);
                    Check.due("fare " + fare + ", stop " + k + " of " + size, x.could(), off[fare][k] & ~farther);
                    x.tear();
                }
            }
        }
    }

    private static void couldNothingSeen() {
        Check.of("COULD BE: v by which all that is SEEN is so");
        Check.due("nothing, no town", new PersonLines().could(), 1023);
        Check.due("nothing, no lines", Check.town("p;").could(), 1023);
        Check.due("nothing", Check.town(Check.FOUR).could(), 1023);
    }

    private static void couldAllThatIsSeen() {
        Check.of("all that is SEEN");
        PersonLines x = Check.town(Check.persons(4, 0) + "l2 0,1,2,3;l3 3,2,1;l1 0,1;l0 0,1;");
        x.see(0, 1);
        Check.due("2, 3", x.could(), 0b1100);
        x.see(1, 1);
        Check.due("3", x.could(), 0b1000);
        x.see(2, 1);
        x.see(3, 1);
        Check.due("3 still", x.could(), 0b1000);
        x.see(1, 1);
        Check.due("the same twice", x.could(), 0b1000);
        x.see(3, 0);
        Check.due("the sixth: none", x.could(), 0);
    }

    private static void couldWhateverHappens() {
        Check.of("a PERSON of unknown NEARNESS to all, alike to each");
        PersonLines x = Check.town("p;p0;p0,0;l2 0,1;l0 0,1;");
        x.see(0, 0);
        Check.due("0, 1", x.could(), 0b11);
        x.sleep(0, 0);
        x.end(0, 2);
        x.die(1);
        x.morning(1);
        Check.due("0, 1 still", x.could(), 0b11);
        Check.due("none parts them", x.lookAt(), Check.NONE);
        x.undo(4);
        Check.due("SEEN is not undone", x.told(8), 1);
    }

    private static void lookAtGreatestPart() {
        Check.of("LOOK AT: the LINE by where one gets off these are parted best: the greatest part is least");
        String six = Check.persons(6, 0);
        // The greatest parts are 9, 8, 7, 3, 2 and 5.
        PersonLines x = Check.town(six + "l1 0,1;l2 0,1;l3 0,1;l3 0,1,2,3;l2 0,1,2,3,4,5;l1 0,1,2,3,4,5;");
        Check.due("2, 2, 2, 2, 2", x.lookAt(), 4);
        PersonLines three = Check.town(six + "l1 0,1;l2 0,1;l3 0,1;l3 0,1,2,3;l1 0,1,2,3,4,5;l0 0,1;");
        Check.due("3, 3, 3, 1", three.lookAt(), 3);
        three.see(4, 5);
        Check.due("5 .. 9: 1, 3, 1 by line 3", three.lookAt(), 3);
        three.see(3, 3);
        Check.due("9 alone", three.lookAt(), Check.NONE);
    }

    private static void lookAtOfLike() {
        Check.of("of like ones the least");
        Check.due("1, as 2", Check.town(Check.persons(3, 0) + "l0 0,1;l2 0,1;l2 2,1;").lookAt(), 1);
        Check.due("0", Check.town(Check.persons(3, 0) + "l2 0,1;l2 2,1;l0 0,1;").lookAt(), 0);
        PersonLines x = Check.town(Check.persons(3, 0) + "l3 0,1;l3 0,1,2;l1 0,1;l2 0,1;");
        x.see(1, 0);
        Check.due("0, 1, 2: by 2 as by 3", x.lookAt(), 2);
    }

    private static void lookAtNone() {
        Check.of("NONE: none parts them");
        Check.due("no town", new PersonLines().lookAt(), Check.NONE);
        Check.due("no lines", Check.town("p;p0;").lookAt(), Check.NONE);
        Check.due("no fare", Check.town("p;p0;l0 0,1;").lookAt(), Check.NONE);
        PersonLines x = Check.town("p;p0;l1 0,1;l2 0,1;");
        Check.due("7 .. 2 of line 1 is best", x.lookAt(), 1);
        x.see(1, 1);
        Check.due("2 .. 9 go all to the end", x.lookAt(), Check.NONE);
        x.see(1, 0);
        Check.due("none could be", x.lookAt(), Check.NONE);
        x.tear();
        x.see(0, 0);
        Check.due("0 alone", x.lookAt(), Check.NONE);
    }

    private static void writeTwenty() {
        Check.of("THE BOOK (20 at most). Promise 27: how many; FULL (20)");
        PersonLines x = Check.town(Check.FOUR);
        for (int n = 1; n <= 20; n++) {
            Check.due("write", x.write(n % 4, n % 4), n);
            Check.due("entries", x.told(9), n);
        }
        Check.due("the 21st", x.write(0, 1), Check.FULL);
        Check.due("is not there", x.judge(), Check.NONE);
        Check.due("entries", x.told(9), 20);
        x.tear();
        Check.due("the first again", x.write(0, 0), 1);
    }

    private static void writeIsRefused() {
        Check.of("Promise 27: UNKNOWN");
        PersonLines x = Check.town(Check.FOUR);
        for (int wrong : WRONG) {
            Check.due("p = " + wrong, x.write(wrong, 0), Check.UNKNOWN);
            Check.due("q = " + wrong, x.write(0, wrong), Check.UNKNOWN);
            Check.due("both", x.write(wrong, wrong), Check.UNKNOWN);
        }
        Check.due("entries", x.told(9), 0);
        Check.due("at its own gate", x.write(3, 3), 1);
        Check.due("no town", new PersonLines().write(0, 0), Check.UNKNOWN);
    }

    private static void judgeFirst() {
        Check.of("WRONG: the first that is otherwise now");
        PersonLines x = Check.town(Check.FOUR);
        x.write(0, 1);
        Check.due("the first", x.judge(), 0);
        x.tear();
        for (int n = 0; n < 19; n++) {
            x.write(n % 4, n % 4);
        }
        x.write(3, 0);
        Check.due("the last", x.judge(), 19);
        x.ride(3, 3, 1);
        Check.due("the first of 3", x.judge(), 3);
    }

    private static void judgeAsItIsNow() {
        Check.of("tells AT whose gate PERSONS are");
        PersonLines x = Check.town(Check.FOUR);
        x.write(0, 2);
        x.write(1, 1);
        Check.due("not yet", x.judge(), 0);
        x.ride(0, 1, 1);
        Check.due("now", x.judge(), Check.NONE);
        x.die(0);
        x.morning(1);
        Check.due("the dead stays", x.judge(), Check.NONE);
        x.undo(3);
        Check.due("undone", x.judge(), 0);
        Check.due("THE BOOK is not undone", x.told(9), 2);
    }

    private static void judgeNone() {
        Check.of("Promise 28: WRONG; NONE");
        Check.due("no town", new PersonLines().judge(), Check.NONE);
        PersonLines x = Check.town(Check.FOUR);
        Check.due("no book", x.judge(), Check.NONE);
        x.write(2, 2);
        Check.due("as it is", x.judge(), Check.NONE);
    }

    private static void tear() {
        Check.of("Promise 29: Nothing SEEN, no BOOK: how much both had");
        Check.due("no town", new PersonLines().tear(), 0);
        PersonLines x = Check.town(Check.FOUR);
        Check.due("neither", x.tear(), 0);
        x.see(0, 0);
        Check.due("seen alone", x.tear(), 1);
        x.write(0, 1);
        Check.due("book alone", x.tear(), 1);
        Check.due("nothing is wrong", x.judge(), Check.NONE);
        for (int i = 0; i < 21; i++) {
            x.see(0, 0);
            x.write(0, 1);
        }
        Check.due("both full", x.tear(), 26);
        Check.due("seen", x.told(8), 0);
        Check.due("entries", x.told(9), 0);
        Check.due("could", x.could(), 1023);
        Check.due("again", x.tear(), 0);
    }

    private static void seedBounds() {
        Check.of("Promise 30: THE SEED becomes v (0 .. 2147483647): what it was. OUTSIDE");
        PersonLines x = new PersonLines();
        Check.due("0 at first", x.seed(0), 0);
        Check.due("0", x.seed(MOST), 0);
        for (int v : new int[] {LEAST, -1000000001, -2, -1}) {
            Check.due("v = " + v, x.seed(v), Check.OUTSIDE);
        }
        Check.due("the greatest", x.seed(1), 2147483647);
        Check.due("1", x.seed(0), 1);
    }

    private static void seedWraps() {
        Check.of("left over by 2 to the 31");
        PersonLines x = Check.town("p;p0;l0 0,1;");
        x.die(1);
        x.seed(MOST);
        x.drift(1);
        java.math.BigInteger seed = java.math.BigInteger.valueOf(MOST);
        for (int i = 0; i < 2; i++) {
            seed = seed.multiply(java.math.BigInteger.valueOf(1103515245)).add(java.math.BigInteger.valueOf(12345))
                    .mod(java.math.BigInteger.TWO.pow(31));
        }
        Check.due("two draws", x.seed(0), seed.longValue());
        x.drift(1);
        Check.due("from 0", x.seed(0), (12345L * 1103515245L + 12345L) % 2147483648L);
        for (int v = 0; v < 100; v++) {
            x.seed(MOST - v * 21474836);
            x.drift(1);
            Check.due("never below 0", x.seed(0) >= 0 ? 1 : 0, 1);
        }
    }

    private static void keepIsRefused() {
        Check.of("Promise 31: UNKNOWN");
        PersonLines x = Check.town(Check.FOUR);
        x.morning(1);
        for (int wrong : new int[] {LEAST, -2, -1, 2, 3, MOST}) {
            Check.due("i = " + wrong, x.keep(wrong), Check.UNKNOWN);
        }
        Check.due("can be undone still", x.told(10), 1);
        Check.due("0", x.keep(0), 1);
        Check.due("1", x.keep(1), 1);
    }

    private static void keepNothingToUndo() {
        Check.of("Promise 31: (nothing can be undone then)");
        PersonLines x = Check.town(Check.FOUR);
        x.morning(30);
        Check.due("keep", x.keep(1), 1);
        Check.due("undone", x.told(10), 0);
        Check.due("undo", x.undo(1), Check.NOT);
        x.morning(2);
        Check.due("undo", x.undo(3), Check.NOT);
        Check.due("undo", x.undo(2), 30);
    }

    private static void keepAgain() {
        Check.of("IMAGE i becomes what is so");
        PersonLines x = Check.town(Check.FOUR);
        x.seed(1);
        x.keep(0);
        x.morning(1);
        x.seed(2);
        x.keep(1);
        x.morning(1);
        x.seed(3);
        x.keep(0);
        x.morning(1);
        x.goBack(1);
        Check.due("1 is as it was", x.told(3), 1);
        Check.due("with its seed", x.seed(9), 2);
        x.goBack(0);
        Check.due("0 is the latter", x.told(3), 2);
        Check.due("with its seed", x.seed(9), 3);
    }

    private static void keepWithoutTown() {
        Check.of("Promise 31 has no NOT");
        PersonLines x = new PersonLines();
        x.seed(3);
        Check.due("keep", x.keep(0), 1);
        x.seed(4);
        Check.due("go back", x.goBack(0), 1);
        Check.due("seed", x.seed(0), 3);
        Check.due("the other", x.goBack(1), Check.NOT);
        Check.due("persons", x.told(0), 0);
    }

    private static void goBackIsRefused() {
        Check.of("Promise 32: UNKNOWN, NOT: it was not kept");
        PersonLines x = Check.town(Check.FOUR);
        x.morning(2);
        for (int wrong : new int[] {LEAST, -2, -1, 2, 3, MOST}) {
            Check.due("i = " + wrong, x.goBack(wrong), Check.UNKNOWN);
        }
        Check.due("0 not kept", x.goBack(0), Check.NOT);
        Check.due("1 not kept", x.goBack(1), Check.NOT);
        Check.due("can be undone still", x.told(10), 2);
        x.keep(1);
        Check.due("0 not kept still", x.goBack(0), Check.NOT);
        Check.due("1", x.goBack(1), 1);
    }

    private static void goBackToAllOfSection2() {
        Check.of("IMAGES 0, 1 keep all of section 2, THE SEED");
        PersonLines x = Check.town(Check.FOUR);
        x.seed(7);
        x.sleep(2, 2);
        x.end(3, 1);
        x.die(3);
        x.morning(1);
        x.ride(0, 1, 1);
        x.keep(0);
        int[] kept = seenOf(x);
        x.seed(8);
        x.end(3, 2);
        x.die(2);
        x.sleep(1, 0);
        x.morning(9);
        x.drift(9);
        x.see(0, 0);
        x.write(0, 0);
        Check.due("go back", x.goBack(0), 1);
        int[] now = seenOf(x);
        for (int i = 0; i < kept.length; i++) {
            Check.due("value " + i, now[i], kept[i]);
        }
        Check.due("nothing can be undone", x.told(10), 0);
        Check.due("seed", x.seed(0), 7);
        Check.due("SEEN stays", x.told(8), 1);
        Check.due("THE BOOK stays", x.told(9), 1);
    }

    private static int[] seenOf(PersonLines x) {
        int[] values = new int[29];
        int i = 0;
        for (int p = 0; p < 4; p++) {
            values[i++] = x.at(p);
            values[i++] = x.line(p, x.line(p, -1) - 1);
            for (int q = 0; q < 4; q++) {
                values[i++] = x.near(p, q);
            }
        }
        for (int what = 3; what <= 7; what++) {
            values[i++] = x.told(what);
        }
        return values;
    }

    private static void goBackAgainAndAgain() {
        Check.of("What is so becomes IMAGE i");
        PersonLines x = Check.town(Check.FOUR);
        x.morning(4);
        x.keep(1);
        for (int i = 0; i < 3; i++) {
            x.sleep(0, 1);
            x.die(i);
            x.end(0, 2);
            x.seed(i + 1);
            Check.due("go back", x.goBack(1), 1);
            Check.due("days", x.told(3), 4);
            Check.due("rides", x.told(4), 0);
            Check.due("the dead", x.told(5), 0);
            Check.due("near", x.near(0, 2), 5);
            Check.due("end", x.line(0, 2), 3);
            Check.due("undo", x.undo(1), Check.NOT);
            Check.due("seed", x.seed(9), 0);
        }
    }

    private static void imagesAreGone() {
        Check.of("IMAGES are gone by a text, but not by one with a FAULT");
        PersonLines x = Check.town(Check.FOUR);
        x.keep(0);
        x.keep(1);
        x.feed('x');
        x.town();
        Check.due("0", x.goBack(0), 1);
        Check.due("1", x.goBack(1), 1);
        Check.feedAll(x, "p;");
        x.town();
        Check.due("0 is gone", x.goBack(0), Check.NOT);
        Check.due("1 is gone", x.goBack(1), Check.NOT);
        Check.due("persons", x.told(0), 1);
    }
}
