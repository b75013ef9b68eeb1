/** All short texts, alone and behind texts that have come to an edge, against the oracle: the answer and the fault's letter. */
public final class AllTextsTest {
    private static final String LETTERS = "pl,;0129 x";

    public static void main(String[] args) {
        String eight = Check.persons(8, 0);
        String six = "l0 0,1;l0 0,1;l0 0,1;l0 0,1;l0 0,1;l0 0,1;";
        behind("", 5);
        behind("p;", 5);
        behind("p;p", 4);
        behind("p;p0;p", 4);
        behind("p;p0;l", 4);
        behind("p;p0;l0 ", 4);
        behind("p;p0;l0 0", 4);
        behind("p;p0;l0 0,1", 4);
        behind("p;p000;l000 000", 3);
        behind(Check.persons(7, 0) + "p0,0,0,0,0,0", 4);
        behind(eight, 3);
        behind(eight + "l0 0,1,2,3,4", 4);
        behind(eight + "l0 0,1,2,3,4,5", 4);
        behind("p;p0;" + six, 3);
        behind(" ".repeat(196), 4);
        Check.finish();
    }

    private static void behind(String text, int most) {
        compare(text);
        if (most > 0) {
            for (int i = 0; i < LETTERS.length(); i++) {
                behind(text + LETTERS.charAt(i), most - 1);
            }
        }
    }

    private static void compare(String text) {
        PersonLines x = new PersonLines();
        Oracle y = new Oracle();
        for (int i = 0; i < text.length(); i++) {
            x.feed(text.charAt(i));
            y.feed(text.charAt(i));
        }
        Check.due("town of '" + text + "'", x.town(), y.town());
        Check.due("fault of '" + text + "'", x.fault(), y.fault());
        Check.due("lines of '" + text + "'", x.told(1), y.told(1));
        Check.due("together of '" + text + "'", x.told(7), y.told(7));
    }
}
