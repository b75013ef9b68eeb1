/** Counts answers that are not as due; shared by the tests. */
final class Check {
    static final int NONE = -1, UNKNOWN = -1000000001, OUTSIDE = -1000000002, NOT = -1000000003, FULL = -1000000004;
    /** Persons 0 to 3 with lines 0,1,3 (fare 1); 0,2 (2); 2,3,1 (3); 3,0 (0). */
    static final String FOUR = "p;p3;p5,2;p0,6,1;l1 0,1,3;l2 0,2;l3 2,3,1;l0 3,0;";

    private static String sentence = "";
    private static int asked = 0;
    private static int wrong = 0;

    private Check() {
    }

    /** The sentence of the document that the answers asked next belong to; it is told with each that is wrong. */
    static void of(String text) {
        sentence = "[" + text + "] ";
    }

    static void due(String what, long got, long want) {
        asked++;
        if (got != want) {
            wrong++;
            System.out.println(sentence + what + ": answered " + got + ", due is " + want);
        }
    }

    static void holds(String what, boolean so) {
        due(what, so ? 1 : 0, 1);
    }

    static void feedAll(PersonLines x, String text) {
        for (int i = 0; i < text.length(); i++) {
            x.feed(text.charAt(i));
        }
    }

    static PersonLines town(String text) {
        PersonLines x = new PersonLines();
        feedAll(x, text);
        if (x.town() < 0) {
            due("town of " + text, x.fault(), NONE);
        }
        return x;
    }

    /** So many persons, all as near to each other as n. */
    static String persons(int count, int n) {
        StringBuilder text = new StringBuilder();
        for (int p = 0; p < count; p++) {
            text.append('p');
            for (int q = 0; q < p; q++) {
                text.append(q == 0 ? "" : ",").append(n);
            }
            text.append(';');
        }
        return text.toString();
    }

    static void finish() {
        System.out.println(asked + " answers asked, " + wrong + " not as due");
        if (wrong != 0) {
            System.exit(1);
        }
    }
}
