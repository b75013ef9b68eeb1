/** Counts answers that are not as due; shared by the tests. */
final class Check {
    static final int NONE = -1, UNKNOWN = -1000000001, OUTSIDE = -1000000002, NOT = -1000000003, FULL = -1000000004;
    /** Persons 0 to 3 with lines 0,1,3 (fare 1); 0,2 (2); 2,3,1 (3); 3,0 (0). */
    static final String FOUR = "p;p3;p5,2;p0,6,1;l1 0,1,3;l2 0,2;l3 2,3,1;l0 3,0;";

    private static int asked = 0;
    private static int wrong = 0;

    private Check() {
    }

    static void due(String what, long got, long want) {
        asked++;
        if (got != want) {
            wrong++;
            System.out.println(what + ": answered " + got + ", due is " + want);
        }
    }

    static void holds(String what, boolean so) {
        due(what, so ? 1 : 0, 1);
    }

    static void feedAll(PersonLines x, String text) {
        for (int i = 0; i < text.length(); i++) {
            x.feed(text.charAt(i));
        }
    }

    static PersonLines town(String text) {
        PersonLines x = new PersonLines();
        feedAll(x, text);
        if (x.town() < 0) {
            due("town of " + text, x.fault(), NONE);
        }
        return x;
    }

    static void finish() {
        System.out.println(asked + " answers asked, " + wrong + " not as due");
        if (wrong != 0) {
            System.exit(1);
        }
    }
}
