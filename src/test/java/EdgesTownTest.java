import java.util.function.ToIntFunction;

/** The edges that the terms, section 1 and promises 1 to 8 name, sentence by sentence. */
public final class EdgesTownTest {
    private static final int LEAST = Integer.MIN_VALUE, MOST = Integer.MAX_VALUE;
    private static final String TWO = "p;p0;";
    private static final String SIX_LINES = "l0 0,1;l0 0,1;l0 0,1;l0 0,1;l0 0,1;l0 0,1;";

    public static void main(String[] args) {
        terms();
        numbersOfThings();
        sets();
        fiveHundredAndTwelveCalls();
        textOf200();
        eightPersons();
        nearnesses();
        sixLines();
        twoToSixStops();
        toldAhead();
        fares();
        figures();
        blanks();
        firstFault();
        endOfTheText();
        formerLetters();
        leastFault();
        letterThatIsNoWord();
        tooManyNearnesses();
        tooFewNearnesses();
        seventhStop();
        lineOfOne();
        wrongNumbers();
        oneTooMany();
        stopTwice();
        emptyText();
        newObject();
        feed();
        townIsNew();
        townWithAFault();
        fault();
        told();
        near();
        at();
        line();
        Check.finish();
    }

    private static void sound(String text, int persons, int lines) {
        PersonLines x = new PersonLines();
        Check.feedAll(x, text);
        Check.due("town of '" + text + "'", x.town(), persons);
        Check.due("fault of '" + text + "'", x.fault(), Check.NONE);
        Check.due("lines of '" + text + "'", x.told(1), lines);
    }

    private static void faulty(String text, int kind, int where) {
        PersonLines x = new PersonLines();
        Check.feedAll(x, text);
        Check.due("town of '" + text + "'", x.town(), -10 - kind);
        Check.due("fault of '" + text + "'", x.fault(), where);
    }

    private static void terms() {
        Check.of("NONE is -1. Refusals: -1000000001 and on, far below all that is counted");
        Check.due("NONE", PersonLines.NONE, -1);
        Check.due("UNKNOWN", PersonLines.UNKNOWN, -1000000001);
        Check.due("OUTSIDE", PersonLines.OUTSIDE, -1000000002);
        Check.due("NOT", PersonLines.NOT, -1000000003);
        Check.due("FULL", PersonLines.FULL, -1000000004);
        Check.of("BILLION is 1000000000");
        Check.due("names", new PersonLines().names(0, 0), 1000000000);
    }

    private static void numbersOfThings() {
        Check.of("What has a number has it from 0 on, as it comes");
        PersonLines x = Check.town("p;p1;l3 1,0;p2,3;l2 2,0,1;");
        Check.due("person 0", x.at(0), 0);
        Check.due("person 2", x.at(2), 2);
        Check.due("no person 3", x.at(3), Check.UNKNOWN);
        Check.due("no person -1", x.at(-1), Check.UNKNOWN);
        Check.due("line 0", x.line(0, -2), 3);
        Check.due("line 1", x.line(1, -2), 2);
        Check.due("no line 2", x.line(2, -2), Check.UNKNOWN);
        Check.due("no line -1", x.line(-1, -2), Check.UNKNOWN);
        Check.due("stop 0", x.line(1, 0), 2);
        Check.due("stop 2", x.line(1, 2), 1);
    }

    private static void sets() {
        Check.of("A SET is a whole number, bit k for k");
        PersonLines x = Check.town(Check.persons(8, 9) + "l0 0,1;l0 1,2;l0 2,3;l0 3,4;l0 4,5;l0 5,7;");
        Check.due("reached: all but 6", x.reached(0), 0b10111111);
        Check.due("cuts: all six", x.cuts(0, 7), 0b111111);
        Check.due("meet: the eighth", x.meet(7), 0b10000000);
        x.die(7);
        x.die(0);
        Check.due("the dead: first and last", x.told(5), 0b10000001);
        Check.due("could be: 0 to 9", x.could(), 0b1111111111);
    }

    private static void fiveHundredAndTwelveCalls() {
        Check.of("An object is used for at most 512 calls");
        PersonLines x = Check.town("p;p3;l1 0,1;l0 1,0;");
        for (int calls = 20; calls < 511; calls++) {
            x.ride(0, calls % 2, 1);
        }
        Check.due("rides, the 512th call", x.told(4), 491);
    }

    private static void textOf200() {
        Check.of("a text (200 letters at most)");
        String town = Check.persons(8, 0);
        sound(" ".repeat(200 - town.length()) + town, 8, 0);
        sound(town + " ".repeat(200 - town.length()), 8, 0);
        PersonLines x = new PersonLines();
        Check.feedAll(x, " ".repeat(199) + "p");
        Check.due("the 201st", x.feed(';'), Check.FULL);
        Check.due("so 'p' has no ';'", x.town(), -11);
        Check.due("at the text's length", x.fault(), 200);
    }

    private static void eightPersons() {
        Check.of("8 PERSONS at most");
        sound("p;", 1, 0);
        sound(Check.persons(7, 9), 7, 0);
        sound(Check.persons(8, 9), 8, 0);
        faulty(Check.persons(8, 9) + "p9,9,9,9,9,9,9,9;", 3, Check.persons(8, 9).length());
    }

    private static void nearnesses() {
        Check.of("N is how NEAR to each PERSON told ahead, in turn, 0 .. 9, just as many as there are, none for the first");
        PersonLines x = Check.town("p;p0;p9,1;p2,3,4;");
        int[][] due = {{9, 0, 9, 2}, {0, 9, 1, 3}, {9, 1, 9, 4}, {2, 3, 4, 9}};
        for (int p = 0; p < 4; p++) {
            for (int q = 0; q < 4; q++) {
                Check.due("near " + p + " " + q, x.near(p, q), due[p][q]);
            }
        }
        sound("p;p0;", 2, 0);
        sound("p;p9;", 2, 0);
        faulty("p;p10;", 2, 3);
        faulty("p;p-1;", 1, 3);
        faulty("p0;", 1, 1);
    }

    private static void sixLines() {
        Check.of("6 LINES at most");
        sound(TWO, 2, 0);
        sound(TWO + SIX_LINES.substring(7), 2, 5);
        sound(TWO + SIX_LINES, 2, 6);
        faulty(TWO + SIX_LINES + "l0 0,1;", 3, TWO.length() + SIX_LINES.length());
    }

    private static void twoToSixStops() {
        Check.of("of 2 to 6 STOPS");
        String eight = Check.persons(8, 0);
        String stops = "7,6,5,4,3,2,1";
        faulty(eight + "l0 ;", 1, eight.length() + 3);
        faulty(eight + "l0 7;", 1, eight.length() + 4);
        for (int size = 2; size <= 6; size++) {
            String text = eight + "l0 " + stops.substring(0, 2 * size - 1) + ";";
            sound(text, 8, 1);
            PersonLines x = Check.town(text);
            Check.due("how many stops", x.line(0, -1), size);
            Check.due("the last", x.line(0, size - 1), 8 - size);
            Check.due("behind it", x.line(0, size), Check.OUTSIDE);
        }
        faulty(eight + "l0 " + stops + ";", 1, eight.length() + 14);
    }

    private static void toldAhead() {
        Check.of("PERSONS X told ahead");
        sound("p;p0;l0 1,0;", 2, 1);
        faulty("p;p0;l0 0,2;p0,0;", 2, 10);
        faulty("p;p0;l0 2,0;p0,0;", 2, 8);
        faulty("p;l0 0,1;p0;", 2, 7);
        faulty("l0 0,1;p;p0;", 2, 3);
        sound("p;p0;p0,0;l0 0,2;", 3, 1);
        faulty(Check.persons(8, 0) + "l0 7,8;", 2, Check.persons(8, 0).length() + 5);
    }

    private static void fares() {
        Check.of("FARE D, 0 .. 3");
        for (int fare = 0; fare <= 3; fare++) {
            Check.due("fare", Check.town(TWO + "l" + fare + " 0,1;").line(0, -2), fare);
        }
        faulty(TWO + "l4 0,1;", 2, 6);
        faulty(TWO + "l999 0,1;", 2, 6);
        faulty(TWO + "l-1 0,1;", 1, 6);
        faulty(TWO + "l,0,1;", 1, 6);
    }

    private static void figures() {
        Check.of("NUMBERS have one to three figures");
        Check.due("one", Check.town("p;p7;").near(0, 1), 7);
        Check.due("two", Check.town("p;p07;").near(0, 1), 7);
        Check.due("three", Check.town("p;p007;").near(0, 1), 7);
        faulty("p;p0007;", 2, 3);
        Check.due("three for a fare", Check.town(TWO + "l003 001,000;").line(0, -2), 3);
        Check.due("three for a stop", Check.town(TWO + "l003 001,000;").line(0, 0), 1);
        faulty(TWO + "l0003 1,0;", 2, 6);
        faulty(TWO + "l3 0001,0;", 2, 8);
        faulty(TWO + "l3 1,0000;", 2, 10);
    }

    /** A blank is put at each place of a text whose numbers are of two and three figures. */
    private static void blanks() {
        Check.of("blanks (32) may stand anywhere but within NUMBERS; two NUMBERS side by side need one");
        String text = "p;p03;p004,05;l01 02,000,1;";
        for (int i = 0; i <= text.length(); i++) {
            boolean within = i > 0 && i < text.length() && isFigure(text.charAt(i - 1)) && isFigure(text.charAt(i));
            PersonLines x = new PersonLines();
            Check.feedAll(x, text.substring(0, i) + "  " + text.substring(i));
            Check.due("blanks ahead of letter " + i, x.town(), within ? -11 : 3);
        }
        sound(text.replace("", " ").replace("0 3", "03").replace("0 0 4", "004").replace("0 5", "05")
                .replace("0 1", "01").replace("0 2", "02").replace("0 0 0", "000"), 3, 1);
        faulty("p;p0 3;", 1, 5);
        faulty(TWO + "l00,1;", 1, 8);
        faulty(TWO + "l10,1;", 2, 6);
        for (int other : new int[] {0, 9, 10, 13, 31, 33, 160, 255}) {
            faulty("p" + (char) other + ";", 1, 1);
        }
    }

    private static boolean isFigure(char letter) {
        return letter >= '0' && letter <= '9';
    }

    private static void firstFault() {
        Check.of("FAULTS, at the first letter that has one");
        faulty("p;p10;x", 2, 3);
        faulty("p;x;p10;", 1, 2);
        faulty(TWO + "l4 9,9;", 2, 6);
        faulty(TWO + "l0 0,0,9;", 4, 10);
        faulty(TWO + "l0 0,9,0;", 2, 10);
        faulty(TWO + "l0 0,0", 4, 10);
        faulty("p;p10", 2, 3);
        faulty(Check.persons(8, 0) + "px", 3, Check.persons(8, 0).length());
    }

    private static void endOfTheText() {
        Check.of("(the end at the text's length)");
        String text = "p;p3;p4,5;l1 2,0,1;";
        for (int i = 0; i <= text.length(); i++) {
            String begun = text.substring(0, i);
            if (begun.isEmpty() || begun.endsWith(";")) {
                Check.due("fault of '" + begun + "'", faultOf(begun + "  "), Check.NONE);
            } else {
                faulty(begun, 1, i);
                faulty(begun + "   ", 1, i + 3);
            }
        }
    }

    private static void formerLetters() {
        Check.of("THE TEXT (it is empty then, with a FAULT, too)");
        PersonLines x = Check.town("p;p9;");
        x.feed('p');
        Check.due("no ';' is left", x.town(), -11);
        Check.due("at the end", x.fault(), 1);
        Check.feedAll(x, "p;p1234");
        Check.due("four figures", x.town(), -12);
        Check.feedAll(x, "p;p1");
        Check.due("no figure is left", x.town(), -11);
        Check.due("at the end", x.fault(), 4);
        Check.feedAll(x, "p;" + " ".repeat(196) + "p9");
        Check.due("a figure as the 200th letter", x.town(), -11);
        Check.due("at the end", x.fault(), 200);
        Check.feedAll(x, " ".repeat(10));
        Check.due("blanks alone", x.town(), 0);
    }

    private static int faultOf(String text) {
        PersonLines x = new PersonLines();
        Check.feedAll(x, text);
        x.town();
        return x.fault();
    }

    private static void leastFault() {
        Check.of("of these the least");
        faulty("p1234;", 1, 1);
        faulty("1234", 1, 0);
        faulty("p;p0 1234;", 1, 5);
        faulty(TWO + "l0 0 1234;", 1, 10);
        faulty(TWO + "l0 0 0;", 1, 10);
        faulty(TWO + "l0 0,1 99;", 1, 12);
        faulty(Check.persons(6, 0) + "l0 0,1,2,3,4,5,0;", 1, Check.persons(6, 0).length() + 14);
        faulty("p;pp", 1, 3);
        faulty(TWO + SIX_LINES.substring(0, 6) + "l", 1, 11);
    }

    private static void letterThatIsNoWord() {
        Check.of("1 it cannot stand there (a letter that is no word)");
        for (int letter = 0; letter <= 255; letter++) {
            boolean begins = letter == 'p' || letter == 'l';
            if (letter != ' ') {
                Check.due("the fault of letter " + letter, faultOf("" + (char) letter), begins ? 1 : 0);
                Check.due("of letter " + letter + " behind a town", faultOf("p;" + (char) letter), begins ? 3 : 2);
                Check.due("of letter " + letter + " behind 'p'", faultOf("p" + (char) letter), letter == ';' ? Check.NONE : 1);
            }
        }
        faulty("P;", 1, 0);
        faulty("p;p1" + (char) 0 + ";", 1, 4);
        faulty("p;p1.5;", 1, 4);
        faulty(TWO + "L0 0,1;", 1, 5);
        faulty(TWO + "l+0 0,1;", 1, 6);
        faulty("p;;", 1, 2);
    }

    private static void tooManyNearnesses() {
        Check.of("an N too many: at it, or at its ','");
        faulty("p0;", 1, 1);
        faulty("p ,0;", 1, 2);
        faulty("p;p0,1;", 1, 4);
        faulty("p;p0 , 1;", 1, 5);
        faulty("p;p0 1;", 1, 5);
        faulty("p;p0;p1,2,3;", 1, 9);
        faulty("p;p0;p1,2 3;", 1, 10);
        String seven = Check.persons(7, 0);
        faulty(seven + "p0,0,0,0,0,0,0,0;", 1, seven.length() + 14);
    }

    private static void tooFewNearnesses() {
        Check.of("too few: at what stands there instead");
        faulty("p;p;", 1, 3);
        faulty("p;pl", 1, 3);
        faulty("p;p  ;", 1, 5);
        faulty("p;p,1;", 1, 3);
        faulty("p;p0;p1;", 1, 7);
        faulty("p;p0;p1,;", 1, 8);
        faulty("p;p0;p1p", 1, 7);
        faulty("p;p0;p1 2;", 1, 8);
        faulty("p;p0;p1,,2;", 1, 8);
        String seven = Check.persons(7, 0);
        faulty(seven + "p0,0,0,0,0,0;", 1, seven.length() + 12);
    }

    private static void seventhStop() {
        Check.of("a seventh X: at its ','");
        String eight = Check.persons(8, 0);
        faulty(eight + "l0 0,1,2,3,4,5,6;", 1, eight.length() + 14);
        faulty(eight + "l0 0,1,2,3,4,5 , 6;", 1, eight.length() + 15);
        faulty(eight + "l0 0,1,2,3,4,5,", 1, eight.length() + 14);
        faulty(eight + "l0 0,1,2,3,4,5 6;", 1, eight.length() + 15);
    }

    private static void lineOfOne() {
        Check.of("a LINE of one: at what stands there instead of ','");
        faulty(TWO + "l0 0;", 1, 9);
        faulty(TWO + "l0 0 ;", 1, 10);
        faulty(TWO + "l0 0p", 1, 9);
        faulty(TWO + "l0 0 1;", 1, 10);
        faulty(TWO + "l0 0", 1, 9);
        faulty("p;l0 0;", 1, 6);
    }

    private static void wrongNumbers() {
        Check.of("2 a NUMBER of four figures or more, or out of its bounds; a PERSON that was not told yet (at its first)");
        faulty("p;p1000;", 2, 3);
        faulty("p;p0000;", 2, 3);
        faulty("p;p00000000000000000000000000000000000000001;", 2, 3);
        faulty("p;p4294967297;", 2, 3);
        faulty("p;p10;", 2, 3);
        faulty("p;p100;", 2, 3);
        faulty("p;p999;", 2, 3);
        faulty("p;p0;p9,  10;", 2, 10);
        faulty(TWO + "l4 0,1;", 2, 6);
        faulty(TWO + "l100 0,1;", 2, 6);
        faulty(TWO + "l0 2,1;", 2, 8);
        faulty(TWO + "l0 0, 002;", 2, 11);
        faulty(TWO + "l0 0,999;", 2, 10);
        faulty(TWO + "l0 4294967296,1;", 2, 8);
        faulty("l0 0", 2, 3);
    }

    private static void oneTooMany() {
        Check.of("3 a ninth 'p', a seventh 'l' (at it)");
        String eight = Check.persons(8, 0);
        faulty(eight + "p", 3, eight.length());
        faulty(eight + "  p;", 3, eight.length() + 2);
        faulty(eight + "l0 0,1;p0", 3, eight.length() + 7);
        faulty(TWO + SIX_LINES + "l", 3, TWO.length() + SIX_LINES.length());
        faulty(TWO + SIX_LINES + " l9 9;", 3, TWO.length() + SIX_LINES.length() + 1);
        faulty(TWO + SIX_LINES + "p0,0;l0 0,1;", 3, TWO.length() + SIX_LINES.length() + 5);
        sound(TWO + SIX_LINES + "p0,0;", 3, 6);
        sound(eight + "l0 6,7;", 8, 1);
    }

    private static void stopTwice() {
        Check.of("4 an X twice (at it)");
        faulty(TWO + "l0 0,0;", 4, 10);
        faulty(TWO + "l0 0,  000;", 4, 12);
        faulty(TWO + "l0 1,0,1;", 4, 12);
        String eight = Check.persons(8, 0);
        faulty(eight + "l0 0,1,2,3,4,4;", 4, eight.length() + 13);
        faulty(eight + "l0 0,1,2,3,4,0;", 4, eight.length() + 13);
        sound(eight + "l0 0,1;l0 0,1;l0 1,0;", 8, 3);
        sound(eight + "l0 0,1,2,3,4,5;", 8, 1);
    }

    private static void emptyText() {
        Check.of("An empty text: no TOWN");
        sound("", 0, 0);
        PersonLines x = Check.town(Check.FOUR);
        Check.due("town of nothing", x.town(), 0);
        Check.due("persons", x.told(0), 0);
        Check.due("lines", x.told(1), 0);
        Check.due("nobody", x.at(0), Check.UNKNOWN);
        Check.due("no line", x.line(0, -1), Check.UNKNOWN);
        Check.due("morning", x.morning(1), Check.NOT);
        Check.due("drift", x.drift(1), Check.NOT);
        Check.due("pairs", x.told(6), 0);
        Check.due("together", x.told(7), 0);
        Check.due("best end", x.bestEnd(), Check.NONE);
        Check.due("warm", x.warm(), 0);
    }

    private static void newObject() {
        Check.of("Promise 1: No TOWN");
        PersonLines x = new PersonLines();
        for (int what = 0; what <= 10; what++) {
            Check.due("told " + what, x.told(what), 0);
        }
        Check.due("fault", x.fault(), Check.NONE);
        Check.due("at", x.at(0), Check.UNKNOWN);
        Check.due("line", x.line(0, -1), Check.UNKNOWN);
        Check.due("morning", x.morning(1), Check.NOT);
        Check.due("drift", x.drift(1), Check.NOT);
        Check.due("an image", x.goBack(0), Check.NOT);
        Check.due("undo", x.undo(1), Check.NOT);
        Check.due("could", x.could(), 1023);
        Check.due("judge", x.judge(), Check.NONE);
        Check.of("THE SEED (0 at first)");
        Check.due("seed", x.seed(1), 0);
    }

    private static void feed() {
        Check.of("Promise 2: A letter (0 .. 255) comes behind THE TEXT: how many it has. OUTSIDE, FULL (200)");
        PersonLines x = new PersonLines();
        for (int letter : new int[] {LEAST, -1, 256, 1000000000, MOST}) {
            Check.due("feed " + letter, x.feed(letter), Check.OUTSIDE);
        }
        Check.due("none came", x.told(2), 0);
        for (int n = 1; n <= 200; n++) {
            Check.due("feed", x.feed(n == 1 ? 0 : n == 2 ? 255 : n), n);
        }
        Check.due("the 201st", x.feed(' '), Check.FULL);
        Check.due("0", x.feed(0), Check.FULL);
        Check.due("255", x.feed(255), Check.FULL);
        Check.due("256", x.feed(256), Check.OUTSIDE);
        Check.due("-1", x.feed(-1), Check.OUTSIDE);
        Check.due("letters", x.told(2), 200);
        x.town();
        Check.due("the first again", x.feed('p'), 1);
    }

    private static PersonLines lived() {
        PersonLines x = Check.town(Check.FOUR);
        x.seed(4711);
        x.sleep(0, 1);
        x.keep(0);
        x.keep(1);
        x.end(0, 2);
        x.ride(1, 0, 1);
        x.die(3);
        x.morning(1);
        x.ride(0, 1, 1);
        x.see(1, 0);
        x.write(2, 2);
        return x;
    }

    private static void townIsNew() {
        Check.of("Promise 3: DAY 0, no RIDES, nobody DEAD, all AT their own gates; nothing SEEN, no BOOK; "
                + "IMAGES, what could be undone are gone; THE SEED stays");
        for (String text : new String[] {Check.FOUR, "p;p1;p1,1;p1,1,1;", ""}) {
            PersonLines x = lived();
            Check.feedAll(x, text);
            int persons = x.town();
            Check.due("persons", persons, text.isEmpty() ? 0 : 4);
            for (int what : new int[] {2, 3, 4, 5, 8, 9, 10}) {
                Check.due("told " + what, x.told(what), 0);
            }
            for (int p = 0; p < persons; p++) {
                Check.due("at", x.at(p), p);
            }
            Check.due("undo", x.undo(1), Check.NOT);
            Check.due("image 0", x.goBack(0), Check.NOT);
            Check.due("image 1", x.goBack(1), Check.NOT);
            Check.due("could", x.could(), 1023);
            Check.due("judge", x.judge(), Check.NONE);
            Check.due("seed", x.seed(0), 4711);
        }
    }

    private static void townWithAFault() {
        Check.of("Promise 3: -10 less the number of its FAULT (all is as it was); THE TEXT is empty then, with a FAULT, too");
        String[] texts = {"x", "p;p10;", Check.persons(8, 0) + "p", TWO + "l0 0,0;"};
        for (int i = 0; i < texts.length; i++) {
            PersonLines x = lived();
            PersonLines y = lived();
            Check.feedAll(x, texts[i]);
            Check.due("town", x.town(), -11 - i);
            Check.due("text", x.told(2), 0);
            for (int what = 0; what <= 10; what++) {
                Check.due("told " + what, x.told(what), y.told(what));
            }
            for (int p = 0; p < 4; p++) {
                Check.due("at", x.at(p), y.at(p));
                Check.due("end", x.line(p, 1), y.line(p, 1));
                Check.due("fare", x.line(p, -2), y.line(p, -2));
                for (int q = 0; q < 4; q++) {
                    Check.due("near", x.near(p, q), y.near(p, q));
                }
            }
            Check.due("could", x.could(), y.could());
            Check.due("undo", x.undo(5), y.undo(5));
            Check.due("rides", x.told(4), y.told(4));
            Check.due("image 1", x.goBack(1), 1);
            Check.due("seed", x.seed(0), 4711);
            Check.due("feed", x.feed('p'), 1);
        }
    }

    private static void fault() {
        Check.of("Promise 4: The letter of the FAULT of the latest town(); NONE");
        PersonLines x = new PersonLines();
        Check.due("no town() yet", x.fault(), Check.NONE);
        Check.feedAll(x, "p;x");
        Check.due("not yet", x.fault(), Check.NONE);
        x.town();
        Check.due("at 2", x.fault(), 2);
        x.feed('x');
        Check.due("still the former", x.fault(), 2);
        x.town();
        Check.due("at 0", x.fault(), 0);
        x.town();
        Check.due("none in an empty text", x.fault(), Check.NONE);
        Check.feedAll(x, "p");
        x.town();
        Check.due("at the end", x.fault(), 1);
        Check.feedAll(x, "p;");
        x.town();
        Check.due("none", x.fault(), Check.NONE);
    }

    private static void told() {
        Check.of("Promise 5: told 0 .. 10, OUTSIDE");
        PersonLines x = lived();
        Check.feedAll(x, "p;p");
        int[] due = {4, 4, 3, 1, 3, 8, 5, 21, 1, 1, 5};
        for (int what = 0; what <= 10; what++) {
            Check.due("told " + what, x.told(what), due[what]);
        }
        for (int what : new int[] {LEAST, -2, -1, 11, 12, 1000000000, MOST}) {
            Check.due("told " + what, x.told(what), Check.OUTSIDE);
        }
        PersonLines most = Check.town(Check.persons(8, 9) + "l0 0,1,2,3,4,5;l0 5,6,7,0;");
        Check.due("pairs at most", most.told(6), 56);
        Check.due("nearness at most", most.told(7), 252);
        PersonLines one = Check.town("p;");
        Check.due("pairs of one", one.told(6), 0);
        Check.due("nearness of one", one.told(7), 0);
    }

    private static void unknownPersons(ToIntFunction<Integer> call, int persons) {
        for (int p : new int[] {LEAST, -1000000001, -2, -1, persons, persons + 1, 8, 32, MOST}) {
            Check.due("person " + p, call.applyAsInt(p), Check.UNKNOWN);
        }
    }

    private static void near() {
        Check.of("Promise 6: How NEAR two are. UNKNOWN; alike; a PERSON to itself by 9");
        PersonLines x = Check.town(Check.FOUR);
        unknownPersons(p -> x.near(p, 0), 4);
        unknownPersons(p -> x.near(3, p), 4);
        unknownPersons(p -> x.near(p, p), 4);
        for (int p = 0; p < 4; p++) {
            Check.due("itself", x.near(p, p), 9);
            for (int q = 0; q < 4; q++) {
                Check.due("alike", x.near(p, q), x.near(q, p));
            }
        }
        Check.due("0", x.near(0, 3), 0);
    }

    private static void at() {
        Check.of("Promise 7: AT whose gate a PERSON is. UNKNOWN");
        PersonLines x = Check.town(Check.FOUR);
        unknownPersons(x::at, 4);
        for (int p = 0; p < 4; p++) {
            Check.due("at first AT its own", x.at(p), p);
        }
    }

    private static void line() {
        Check.of("Promise 8: i = NONE how many STOPS, else the PERSON of STOP i now; -2: FARE. UNKNOWN, OUTSIDE (another i)");
        PersonLines x = Check.town(Check.FOUR);
        for (int l : new int[] {LEAST, -2, -1, 4, 5, 6, MOST}) {
            Check.due("line " + l, x.line(l, 0), Check.UNKNOWN);
            Check.due("line " + l + ", another i, too", x.line(l, 9), Check.UNKNOWN);
            Check.due("line " + l + "'s fare", x.line(l, -2), Check.UNKNOWN);
        }
        for (int i : new int[] {LEAST, -4, -3, 3, 4, 5, 6, MOST}) {
            Check.due("stop " + i + " of 3", x.line(0, i), Check.OUTSIDE);
        }
        Check.due("stop 2 of 2", x.line(3, 2), Check.OUTSIDE);
        Check.due("how many", x.line(0, -1), 3);
        Check.due("how many", x.line(1, -1), 2);
        Check.due("fare", x.line(0, -2), 1);
        Check.due("last", x.line(0, 2), 3);
        x.end(0, 2);
        Check.due("last now", x.line(0, 2), 2);
        Check.due("first as it was", x.line(0, 0), 0);
        x.undo(1);
        Check.due("last, undone", x.line(0, 2), 3);
        PersonLines six = Check.town(Check.persons(8, 0) + "l3 7,6,5,4,3,2;");
        Check.due("stop 5 of 6", six.line(0, 5), 2);
        Check.due("stop 6 of 6", six.line(0, 6), Check.OUTSIDE);
    }
}
