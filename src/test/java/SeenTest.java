/** Promises 24 to 32: what was seen, the book, the seed, images. */
public final class SeenTest {
    public static void main(String[] args) {
        see();
        could();
        lookAt();
        book();
        tear();
        seed();
        images();
        imagesKeepAll();
        Check.finish();
    }

    private static void see() {
        PersonLines x = Check.town(Check.FOUR);
        Check.due("see line 4", x.see(4, 9), Check.UNKNOWN);
        Check.due("see line -1", x.see(-1, 0), Check.UNKNOWN);
        Check.due("see stop 3 of 3", x.see(0, 3), Check.OUTSIDE);
        Check.due("see stop -1", x.see(0, -1), Check.OUTSIDE);
        for (int n = 1; n <= 6; n++) {
            Check.due("see", x.see(1, 1), n);
        }
        Check.due("see a seventh", x.see(1, 1), Check.FULL);
        Check.due("unknown goes ahead of full", x.see(9, 1), Check.UNKNOWN);
        Check.due("outside goes ahead of full", x.see(1, 2), Check.OUTSIDE);
        Check.due("seen", x.told(8), 6);
    }

    private static void could() {
        PersonLines x = Check.town("p;p0;p0,0;p0,0,0;l2 0,1,2,3;l3 3,2,1;l0 1,2;");
        Check.due("all", x.could(), 1023);
        x.see(0, 1);
        Check.due("2, 3", x.could(), 12);
        x.see(1, 0);
        Check.due("2", x.could(), 4);
        x.see(2, 1);
        Check.due("the last one, as there is no fare", x.could(), 4);
        x.see(2, 0);
        Check.due("never", x.could(), 0);
        x.tear();
        x.see(0, 3);
        Check.due("6 and more", x.could(), 960);
        x.end(0, 3);
        Check.due("whatever the end", x.could(), 960);
    }

    private static void lookAt() {
        PersonLines x = Check.town("p;p0;p0,0;p0,0,0;l1 0,1;l3 0,1,2;l2 0,1,2,3;l3 3,2,1,0;l3 2,3,1,0;");
        Check.due("3, 3, 3, 1", x.lookAt(), 3);
        x.see(3, 0);
        Check.due("0, 1, 2: 1 and 2, as by line 2", x.lookAt(), 0);
        x.see(0, 1);
        Check.due("1, 2: line 2", x.lookAt(), 2);
        x.see(2, 0);
        Check.due("1 alone", x.lookAt(), Check.NONE);
        x.see(0, 0);
        Check.due("nobody", x.lookAt(), Check.NONE);
        Check.due("no lines", Check.town("p;p0;").lookAt(), Check.NONE);
        Check.due("no fare parts none", Check.town("p;p0;l0 0,1;").lookAt(), Check.NONE);
    }

    private static void book() {
        PersonLines x = Check.town(Check.FOUR);
        Check.due("write -1", x.write(-1, 0), Check.UNKNOWN);
        Check.due("write 4", x.write(0, 4), Check.UNKNOWN);
        Check.due("an empty book", x.judge(), Check.NONE);
        Check.due("write", x.write(0, 0), 1);
        Check.due("write", x.write(1, 3), 2);
        Check.due("write", x.write(0, 2), 3);
        Check.due("wrong", x.judge(), 1);
        x.ride(1, 0, 1);
        Check.due("wrong", x.judge(), 2);
        x.ride(0, 1, 1);
        Check.due("wrong", x.judge(), 0);
        for (int n = 4; n <= 20; n++) {
            Check.due("write", x.write(3, 3), n);
        }
        Check.due("a full book", x.write(3, 3), Check.FULL);
        Check.due("unknown goes ahead of full", x.write(3, 9), Check.UNKNOWN);
        Check.due("entries", x.told(9), 20);
    }

    private static void tear() {
        PersonLines x = Check.town(Check.FOUR);
        Check.due("nothing", x.tear(), 0);
        x.see(0, 1);
        x.see(0, 1);
        x.write(0, 1);
        Check.due("three", x.tear(), 3);
        Check.due("nothing seen", x.told(8), 0);
        Check.due("no book", x.told(9), 0);
        Check.due("all could be", x.could(), 1023);
        Check.due("nothing is wrong", x.judge(), Check.NONE);
        Check.due("nothing", x.tear(), 0);
    }

    private static void seed() {
        PersonLines x = new PersonLines();
        Check.due("seed -1", x.seed(-1), Check.OUTSIDE);
        Check.due("seed least", x.seed(Integer.MIN_VALUE), Check.OUTSIDE);
        Check.due("seed", x.seed(2147483647), 0);
        Check.due("seed", x.seed(0), 2147483647);
        PersonLines y = Check.town("p;p0;l0 0,1;");
        y.seed(2147483647);
        y.drift(1);
        long one = (2147483647L * 1103515245L + 12345L) % (1L << 31);
        for (int i = 0; i < 3; i++) {
            one = (one * 1103515245L + 12345L) % (1L << 31);
        }
        Check.due("four draws", y.seed(0), one);
    }

    private static void images() {
        PersonLines x = Check.town(Check.FOUR);
        Check.due("keep -1", x.keep(-1), Check.UNKNOWN);
        Check.due("keep 2", x.keep(2), Check.UNKNOWN);
        Check.due("go back to -1", x.goBack(-1), Check.UNKNOWN);
        Check.due("go back to 2", x.goBack(2), Check.UNKNOWN);
        Check.due("go back to what was not kept", x.goBack(0), Check.NOT);
        x.morning(1);
        Check.due("a refused one changes nothing", x.told(10), 1);
        Check.due("keep", x.keep(0), 1);
        Check.due("nothing can be undone", x.undo(1), Check.NOT);
        Check.due("the other was not kept", x.goBack(1), Check.NOT);
        x.morning(2);
        Check.due("keep", x.keep(1), 1);
        x.morning(4);
        Check.due("go back", x.goBack(0), 1);
        Check.due("days", x.told(3), 1);
        Check.due("nothing can be undone", x.told(10), 0);
        Check.due("go on", x.goBack(1), 1);
        Check.due("days", x.told(3), 3);
        Check.due("keep again", x.keep(0), 1);
        x.undo(1);
        x.goBack(0);
        Check.due("days", x.told(3), 3);
        PersonLines none = new PersonLines();
        Check.due("keep no town", none.keep(0), 1);
        Check.due("go back to no town", none.goBack(0), 1);
    }

    private static void imagesKeepAll() {
        PersonLines x = Check.town(Check.FOUR);
        x.seed(7);
        x.sleep(2, 2);
        x.ride(0, 1, 1);
        x.end(3, 1);
        x.die(3);
        x.keep(0);
        x.seed(8);
        x.end(3, 2);
        x.die(2);
        x.sleep(1, 0);
        x.morning(9);
        x.see(0, 0);
        x.write(0, 0);
        x.goBack(0);
        Check.due("at", x.at(0), 2);
        Check.due("near", x.near(1, 2), 3);
        Check.due("end", x.line(3, 1), 1);
        Check.due("dead", x.told(5), 8);
        Check.due("rides", x.told(4), 2);
        Check.due("days", x.told(3), 0);
        Check.due("together", x.told(7), 18);
        Check.due("seen stays", x.told(8), 1);
        Check.due("the book stays", x.told(9), 1);
        Check.due("seed", x.seed(0), 7);
        x.die(1);
        x.goBack(0);
        Check.due("the image is not changed by what comes", x.told(5), 8);
        Check.due("nor its seed", x.seed(0), 7);
    }
}
