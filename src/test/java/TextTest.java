/** Promises 1 to 8: a new object, the text, its faults, and what the town is told to be. */
public final class TextTest {
    private static final String EIGHT = "p;p0;p0,0;p0,0,0;p0,0,0,0;p0,0,0,0,0;p0,0,0,0,0,0;p0,0,0,0,0,0,0;";
    private static final String TWO = "p;p0;";

    public static void main(String[] args) {
        newObject();
        feeding();
        soundTexts();
        cannotStand();
        wrongNumbers();
        tooMany();
        stopsTwice();
        formerTexts();
        faultChangesNothing();
        townStartsAnew();
        told();
        nearAndAt();
        line();
        Check.finish();
    }

    private static void newObject() {
        PersonLines x = new PersonLines();
        for (int what = 0; what <= 10; what++) {
            Check.due("new told(" + what + ")", x.told(what), 0);
        }
        Check.due("new fault", x.fault(), Check.NONE);
        Check.due("new near", x.near(0, 0), Check.UNKNOWN);
        Check.due("new at", x.at(0), Check.UNKNOWN);
        Check.due("new line", x.line(0, -1), Check.UNKNOWN);
        Check.due("new ride", x.ride(0, 0, 1), Check.UNKNOWN);
        Check.due("new sleep", x.sleep(0, 0), Check.UNKNOWN);
        Check.due("new morning", x.morning(1), Check.NOT);
        Check.due("new drift", x.drift(1), Check.NOT);
        Check.due("new morning outside", x.morning(0), Check.OUTSIDE);
        Check.due("new end", x.end(0, 0), Check.UNKNOWN);
        Check.due("new die", x.die(0), Check.UNKNOWN);
        Check.due("new undo", x.undo(1), Check.NOT);
        Check.due("new ways", x.ways(0, 0, 0), Check.UNKNOWN);
        Check.due("new reached", x.reached(0), Check.UNKNOWN);
        Check.due("new cuts", x.cuts(0, 0), Check.UNKNOWN);
        Check.due("new lacks", x.lacks(0, 1, 0), Check.UNKNOWN);
        Check.due("new meet", x.meet(0), Check.UNKNOWN);
        Check.due("new bestEnd", x.bestEnd(), Check.NONE);
        Check.due("new warm", x.warm(), 0);
        Check.due("new see", x.see(0, 0), Check.UNKNOWN);
        Check.due("new could", x.could(), 1023);
        Check.due("new lookAt", x.lookAt(), Check.NONE);
        Check.due("new write", x.write(0, 0), Check.UNKNOWN);
        Check.due("new judge", x.judge(), Check.NONE);
        Check.due("new tear", x.tear(), 0);
        Check.due("new goBack", x.goBack(0), Check.NOT);
        Check.due("new seed", x.seed(1), 0);
        Check.due("new town", x.town(), 0);
        Check.due("new town's fault", x.fault(), Check.NONE);
    }

    private static void feeding() {
        PersonLines x = new PersonLines();
        Check.due("feed -1", x.feed(-1), Check.OUTSIDE);
        Check.due("feed 256", x.feed(256), Check.OUTSIDE);
        Check.due("feed 0", x.feed(0), 1);
        Check.due("feed 255", x.feed(255), 2);
        for (int n = 3; n <= 200; n++) {
            Check.due("feed", x.feed(' '), n);
        }
        Check.due("feed 201", x.feed(' '), Check.FULL);
        Check.due("feed 201 outside", x.feed(300), Check.OUTSIDE);
        Check.due("letters", x.told(2), 200);
        Check.due("town of letter 0", x.town(), -11);
        Check.due("letters behind it", x.told(2), 0);
        for (int n = 1; n <= 200; n++) {
            Check.due("feed anew", x.feed(n < 199 ? ' ' : n == 199 ? 'p' : ';'), n);
        }
        Check.due("town of 200 letters", x.town(), 1);
    }

    private static void sound(String text, int persons, int lines) {
        PersonLines x = new PersonLines();
        Check.feedAll(x, text);
        Check.due("town of '" + text + "'", x.town(), persons);
        Check.due("its fault", x.fault(), Check.NONE);
        Check.due("its persons", x.told(0), persons);
        Check.due("its lines", x.told(1), lines);
    }

    private static void faulty(String text, int kind, int where) {
        PersonLines x = new PersonLines();
        Check.feedAll(x, text);
        Check.due("town of '" + text + "'", x.town(), -10 - kind);
        Check.due("fault of '" + text + "'", x.fault(), where);
    }

    private static void soundTexts() {
        sound("", 0, 0);
        sound("   ", 0, 0);
        sound("p;", 1, 0);
        sound("  p  ;  p  009  ;  ", 2, 0);
        sound("p;p0;l3 0,1;p1,2;l0 2,1,0;", 3, 2);
        sound("p;p0;l 3  001 , 0 ;", 2, 1);
        sound(EIGHT, 8, 0);
        sound(TWO + "l0 0,1;l1 1,0;l2 0,1;l3 1,0;l0 0,1;l1 0,1;", 2, 6);
        sound(EIGHT + "l0 0,1,2,3,4,5;", 8, 1);
    }

    private static void cannotStand() {
        faulty("x", 1, 0);
        faulty("P;", 1, 0);
        faulty(" \t", 1, 1);
        faulty(";", 1, 0);
        faulty("7", 1, 0);
        faulty("p", 1, 1);
        faulty("p  ", 1, 3);
        faulty("p0;", 1, 1);
        faulty("p1234;", 1, 1);
        faulty("p,;", 1, 1);
        faulty("pp;", 1, 1);
        faulty("p;p;", 1, 3);
        faulty("p;p", 1, 3);
        faulty("p;p0", 1, 4);
        faulty("p;p0  ", 1, 6);
        faulty("p;p0,1;", 1, 4);
        faulty("p;p0 1;", 1, 5);
        faulty("p;p0 1234;", 1, 5);
        faulty("p;p0x;", 1, 4);
        faulty("p;p0;p1;", 1, 7);
        faulty("p;p0;p1 2;", 1, 8);
        faulty("p;p0;p1 10;", 1, 8);
        faulty("p;p0;p1,;", 1, 8);
        faulty("p;p0;p,1;", 1, 6);
        faulty("p;p0;p1,2,3;", 1, 9);
        faulty(TWO + "l", 1, 6);
        faulty(TWO + "l;", 1, 6);
        faulty(TWO + "l0;", 1, 7);
        faulty(TWO + "l0,", 1, 7);
        faulty(TWO + "l00,1;", 1, 8);
        faulty(TWO + "l0 0;", 1, 9);
        faulty(TWO + "l0 0", 1, 9);
        faulty(TWO + "l0 0 1;", 1, 10);
        faulty(TWO + "l0 0 9;", 1, 10);
        faulty(TWO + "l0 0 0;", 1, 10);
        faulty(TWO + "l0 0,;", 1, 10);
        faulty(TWO + "l0 0,1", 1, 11);
        faulty(TWO + "l0 0,1,;", 1, 12);
        faulty(TWO + "l0 0,1 p", 1, 12);
        faulty(EIGHT + "l0 0,1,2,3,4,5,6;", 1, EIGHT.length() + 14);
        faulty(EIGHT + "l0 0,1,2,3,4,5 6;", 1, EIGHT.length() + 15);
        faulty(EIGHT + "l0 0,1,2,3,4,5,0;", 1, EIGHT.length() + 14);
    }

    private static void wrongNumbers() {
        faulty("p;p10;", 2, 3);
        faulty("p;p 10;", 2, 4);
        faulty("p;p0000;", 2, 3);
        faulty("p;p0001x", 2, 3);
        faulty("p;p010;", 2, 3);
        faulty("p;p99999999999999999999;", 2, 3);
        faulty("p;p4294967296;", 2, 3);
        faulty("p;p999", 2, 3);
        faulty("p;p0;p1,10;", 2, 8);
        faulty(TWO + "l4 0,1;", 2, 6);
        faulty(TWO + "l0001 0,1;", 2, 6);
        faulty(TWO + "l0 2,1;", 2, 8);
        faulty(TWO + "l0 0,2;", 2, 10);
        faulty(TWO + "l0 0,0001;", 2, 10);
        faulty(TWO + "l0 0,1,8;", 2, 12);
        faulty("l0 0,1;", 2, 3);
        faulty("p;l0 0,1;p0;", 2, 7);
    }

    private static void tooMany() {
        faulty(EIGHT + "p", 3, EIGHT.length());
        faulty(EIGHT + " p;", 3, EIGHT.length() + 1);
        String six = TWO + "l0 0,1;l0 0,1;l0 0,1;l0 0,1;l0 0,1;l0 0,1;";
        faulty(six + "l", 3, six.length());
        faulty(six + "l9", 3, six.length());
        sound(six + "p1,1;", 3, 6);
    }

    private static void stopsTwice() {
        faulty(TWO + "l0 0,0;", 4, 10);
        faulty(TWO + "l0 1,0,001;", 4, 12);
        faulty(TWO + "l0 1,0,1x", 4, 12);
    }

    /** What was told ahead must not be read again behind the end of a shorter text. */
    private static void formerTexts() {
        PersonLines x = Check.town("p;p9;");
        x.feed('p');
        Check.due("no ';' is left", x.town(), -11);
        Check.due("at the end", x.fault(), 1);
        Check.feedAll(x, "p;p12;");
        x.town();
        Check.feedAll(x, "p;p1");
        Check.due("no figure is left", x.town(), -11);
        Check.due("at the end", x.fault(), 4);
        Check.feedAll(x, " ".repeat(199) + "p");
        Check.due("no letter behind 200", x.town(), -11);
        Check.due("at the end", x.fault(), 200);
        Check.feedAll(x, "p;" + " ".repeat(196) + "p9");
        Check.due("a figure at the end of 200", x.town(), -11);
        Check.due("at the end", x.fault(), 200);
        PersonLines smaller = Check.town(Check.FOUR);
        Check.feedAll(smaller, "p;p0;p9,9;l3 0,1;");
        Check.due("a smaller town", smaller.town(), 3);
        Check.due("line 1 is no more", smaller.lacks(0, 2, 0), Check.NONE);
        Check.due("line 1 is no more", smaller.line(1, 0), Check.UNKNOWN);
        Check.due("pairs of the smaller", smaller.told(6), 0);
        Check.due("together in the smaller", smaller.told(7), 18);
        Check.due("person 3 is no more", smaller.at(3), Check.UNKNOWN);
    }

    private static void faultChangesNothing() {
        PersonLines x = Check.town(Check.FOUR);
        x.ride(0, 1, 1);
        x.see(0, 1);
        x.write(0, 2);
        x.keep(1);
        x.ride(1, 0, 1);
        Check.feedAll(x, "p;p;");
        Check.due("fault ahead of town", x.fault(), Check.NONE);
        Check.due("faulty town", x.town(), -11);
        Check.due("its fault", x.fault(), 3);
        Check.due("text behind it", x.told(2), 0);
        Check.due("persons as they were", x.told(0), 4);
        Check.due("lines as they were", x.told(1), 4);
        Check.due("near as it was", x.near(0, 2), 5);
        Check.due("at as it was", x.at(1), 3);
        Check.due("rides as they were", x.told(4), 2);
        Check.due("seen as it was", x.told(8), 1);
        Check.due("book as it was", x.told(9), 1);
        Check.due("undone as it was", x.told(10), 1);
        Check.due("image as it was", x.goBack(1), 1);
        Check.due("line as it was", x.line(2, 2), 1);
        Check.feedAll(x, "p;");
        Check.due("town behind a fault", x.town(), 1);
        Check.due("no fault then", x.fault(), Check.NONE);
    }

    private static void townStartsAnew() {
        PersonLines x = Check.town(Check.FOUR);
        x.seed(5);
        x.keep(0);
        x.sleep(0, 1);
        x.die(3);
        x.end(0, 2);
        x.morning(2);
        x.ride(0, 1, 1);
        x.see(0, 1);
        x.write(0, 2);
        Check.feedAll(x, Check.FOUR);
        Check.due("town anew", x.town(), 4);
        for (int what : new int[] {2, 3, 4, 5, 8, 9, 10}) {
            Check.due("anew told(" + what + ")", x.told(what), 0);
        }
        Check.due("anew near", x.near(0, 2), 5);
        Check.due("anew at", x.at(0), 0);
        Check.due("anew end", x.line(0, 2), 3);
        Check.due("anew could", x.could(), 1023);
        Check.due("images are gone", x.goBack(0), Check.NOT);
        Check.due("undone is gone", x.undo(1), Check.NOT);
        Check.due("the seed stays", x.seed(0), 5);
        x.keep(1);
        Check.due("an empty town", x.town(), 0);
        Check.due("has no persons", x.told(0), 0);
        Check.due("has no lines", x.told(1), 0);
        Check.due("has no mornings", x.morning(1), Check.NOT);
        Check.due("has no image", x.goBack(1), Check.NOT);
        Check.due("has nobody", x.at(0), Check.UNKNOWN);
    }

    private static void told() {
        PersonLines x = Check.town(Check.FOUR);
        x.feed('p');
        x.ride(0, 1, 1);
        x.morning(3);
        x.ride(1, 0, 1);
        x.die(1);
        x.die(3);
        x.see(0, 0);
        x.see(0, 1);
        x.write(0, 0);
        int[] due = {4, 4, 1, 3, 2, 10, 2, 18, 2, 1, 7};
        for (int what = 0; what < due.length; what++) {
            Check.due("told(" + what + ")", x.told(what), due[what]);
        }
        Check.due("told(-1)", x.told(-1), Check.OUTSIDE);
        Check.due("told(11)", x.told(11), Check.OUTSIDE);
    }

    private static void nearAndAt() {
        PersonLines x = Check.town(Check.FOUR);
        Check.due("near", x.near(3, 1), 6);
        Check.due("near turned", x.near(1, 3), 6);
        Check.due("near itself", x.near(2, 2), 9);
        Check.due("near -1", x.near(-1, 0), Check.UNKNOWN);
        Check.due("near 4", x.near(0, 4), Check.UNKNOWN);
        Check.due("at", x.at(3), 3);
        Check.due("at -1", x.at(-1), Check.UNKNOWN);
        Check.due("at 4", x.at(4), Check.UNKNOWN);
        Check.due("at most", x.at(Integer.MAX_VALUE), Check.UNKNOWN);
        Check.due("at least", x.at(Integer.MIN_VALUE), Check.UNKNOWN);
    }

    private static void line() {
        PersonLines x = Check.town(Check.FOUR);
        Check.due("stops", x.line(2, -1), 3);
        Check.due("fare", x.line(2, -2), 3);
        Check.due("first stop", x.line(2, 0), 2);
        Check.due("last stop", x.line(2, 2), 1);
        Check.due("behind it", x.line(2, 3), Check.OUTSIDE);
        Check.due("line's -3", x.line(2, -3), Check.OUTSIDE);
        Check.due("line 4", x.line(4, 0), Check.UNKNOWN);
        Check.due("line -1", x.line(-1, 99), Check.UNKNOWN);
        x.end(2, 0);
        Check.due("changed end", x.line(2, 2), 0);
    }
}
