/** Promises 16 to 23: what is tried from now, by which nothing changes. */
public final class TriedTest {
    public static void main(String[] args) {
        ways();
        firstLineIsLeast();
        fromAGateItMayNotGoOnTo();
        eightPersonsSixLines();
        reached();
        cuts();
        lacks();
        lacksOfLike();
        meet();
        pairs();
        bestEnd();
        warm();
        warmStopsAt99();
        names();
        nothingChanges();
        Check.finish();
    }

    private static void ways() {
        PersonLines x = Check.town(Check.FOUR);
        Check.due("ways -1", x.ways(-1, 0, 5), Check.UNKNOWN);
        Check.due("ways to 4", x.ways(0, 4, 0), Check.UNKNOWN);
        Check.due("ways what 2", x.ways(0, 1, 2), Check.OUTSIDE);
        Check.due("ways what -1", x.ways(0, 1, -1), Check.OUTSIDE);
        Check.due("ways", x.ways(1, 2, 0), 3);
        Check.due("first line", x.ways(1, 2, 1), 0);
        Check.due("by none", x.ways(2, 0, 0), Check.NONE);
        Check.due("by no line", x.ways(2, 0, 1), Check.NONE);
        Check.due("there already", x.ways(3, 3, 0), 0);
        Check.due("by no line", x.ways(3, 3, 1), Check.NONE);
        x.ride(1, 0, 1);
        Check.due("from where it is", x.ways(1, 2, 0), 2);
        Check.due("by the line there", x.ways(1, 2, 1), 3);
        Check.due("to its own gate, to which it is nine", x.ways(1, 1, 0), 1);
        Check.due("by line 2", x.ways(1, 1, 1), 2);
        Check.due("it is there", x.ways(1, 3, 0), 0);
        x.die(0);
        Check.due("the gate of the dead stands", x.ways(1, 2, 0), 2);
        Check.due("to the dead", x.ways(1, 0, 0), 1);
        Check.due("the dead goes no more", x.ways(0, 1, 0), Check.NOT);
        Check.due("outside goes ahead", x.ways(0, 1, 7), Check.OUTSIDE);
    }

    private static void firstLineIsLeast() {
        PersonLines x = Check.town("p;p9;p9,9;p9,9,9;l0 1,3;l0 0,2;l0 2,3;l0 0,1;");
        Check.due("two rides", x.ways(0, 3, 0), 2);
        Check.due("by line 1 or 3", x.ways(0, 3, 1), 1);
        PersonLines y = Check.town("p;p9;p9,9;p9,9,9;l0 0,1;l0 1,2;l0 0,2;l0 2,3;");
        Check.due("two rides by 2, 3", y.ways(0, 3, 0), 2);
        Check.due("line 0 would need three", y.ways(0, 3, 1), 2);
    }

    /** Where one came asleep one may not have been able to go on to: that is not asked again. */
    private static void fromAGateItMayNotGoOnTo() {
        PersonLines x = Check.town("p;p0;p9,0;l3 0,1;l2 2,1,0;l0 1,2;l2 2,0,1;");
        Check.due("asleep", x.sleep(2, 0), Check.NOT);
        Check.due("asleep", x.sleep(2, 3), 1);
        Check.due("on from there", x.ways(2, 0, 0), 1);
        Check.due("by line 1", x.ways(2, 0, 1), 1);
        Check.due("lacks nothing", x.lacks(2, 0, 0), 0);
        Check.due("by line 1", x.lacks(2, 0, 1), 1);
        Check.due("it is there", x.lacks(2, 1, 0), Check.NONE);
        Check.due("by no line", x.lacks(2, 1, 1), Check.NONE);
        Check.due("reached", x.reached(2), 7);
    }

    private static void eightPersonsSixLines() {
        PersonLines x = Check.town("p;p9;p9,9;p9,9,9;p9,9,9,9;p9,9,9,9,9;p9,9,9,9,9,9;p9,9,9,9,9,9,9;"
                + "l0 0,1;l0 1,2;l0 2,3,4;l1 4,5;l1 5,6;l1 6,0;");
        Check.due("all but 7 reach each other, and 7 none", x.told(6), 42);
        Check.due("one that ends in 7 would cut the ring", x.bestEnd(), 4201);
        Check.due("lacks by the last", x.lacks(6, 0, 1), 5);
        Check.due("no line goes", x.lacks(7, 0, 1), Check.NONE);
        Check.due("ways", x.ways(0, 6, 0), 5);
        Check.due("ways by the last", x.ways(6, 5, 1), 5);
        Check.due("all are cuts", x.cuts(0, 6), 31);
        Check.due("reached", x.reached(0), 127);
    }

    private static void reached() {
        PersonLines x = Check.town(Check.FOUR);
        Check.due("reached -1", x.reached(-1), Check.UNKNOWN);
        Check.due("reached 4", x.reached(4), Check.UNKNOWN);
        Check.due("reached", x.reached(0), 7);
        Check.due("where it is alone", x.reached(2), 4);
        x.ride(0, 1, 1);
        Check.due("from where it is", x.reached(0), 4);
        x.die(0);
        Check.due("the dead", x.reached(0), Check.NOT);
        PersonLines chain = Check.town("p;p0;p0,0;p0,0,0;p0,0,0,0;p0,0,0,0,0;p0,0,0,0,0,0;"
                + "l0 5,6;l0 4,5;l0 3,4;l0 2,3;l0 1,2;l0 0,1;");
        Check.due("by six rides", chain.reached(0), 127);
        Check.due("six rides", chain.ways(0, 6, 0), 6);
        // Line 0 serves twice, as 0 may not go on past 5: the longest way that there can be.
        PersonLines longest = Check.town("p;p9;p9,9;p9,9,9;p9,9,9,9;p0,9,9,9,9;p9,9,9,9,9,9;p9,9,9,9,9,9,9;"
                + "l1 0,1,5,3,4;l0 1,2;l0 2,3;l0 4,5;l0 5,6;l0 6,7;");
        Check.due("by seven rides", longest.reached(0), 255);
        Check.due("seven rides", longest.ways(0, 7, 0), 7);
        Check.due("every line is needed", longest.cuts(0, 7), 63);
    }

    private static void cuts() {
        PersonLines x = Check.town("p;p9;p9,9;p9,9,9;p9,9,9,9;l0 0,1;l0 1,2;l0 1,3;l0 2,4;l0 3,4;");
        Check.due("cuts -1", x.cuts(-1, 0), Check.UNKNOWN);
        Check.due("cuts to 5", x.cuts(0, 5), Check.UNKNOWN);
        Check.due("cuts", x.cuts(0, 4), 1);
        Check.due("cuts", x.cuts(0, 3), 5);
        Check.due("no way", x.cuts(4, 0), 0);
        Check.due("there already", x.cuts(0, 0), 0);
        x.ride(0, 0, 1);
        Check.due("from where it is", x.cuts(0, 4), 0);
        Check.due("there already", x.cuts(0, 1), 0);
        x.die(0);
        Check.due("the dead", x.cuts(0, 1), Check.NOT);
    }

    private static void lacks() {
        PersonLines x = Check.town("p;p1;p2,0;p9,0,0;p0,0,0,0;l2 1,0,2,3,4;l3 0,1;l3 0,4;");
        Check.due("lacks -1", x.lacks(-1, 0, 0), Check.UNKNOWN);
        Check.due("lacks to 5", x.lacks(0, 5, 0), Check.UNKNOWN);
        Check.due("one twice", x.lacks(1, 1, 5), Check.UNKNOWN);
        Check.due("lacks what 2", x.lacks(0, 1, 2), Check.OUTSIDE);
        Check.due("lacks what -1", x.lacks(0, 1, -1), Check.OUTSIDE);
        Check.due("lacks 4 - 2", x.lacks(0, 2, 0), 2);
        Check.due("lacks 2, then none", x.lacks(0, 3, 0), 2);
        Check.due("lacks 2 and 8, or 3", x.lacks(0, 4, 0), 3);
        Check.due("by line 2", x.lacks(0, 4, 1), 2);
        Check.due("lacks 1, 4, 6, 8", x.lacks(1, 4, 0), 19);
        Check.due("no line goes", x.lacks(4, 0, 0), Check.NONE);
        Check.due("no line", x.lacks(4, 0, 1), Check.NONE);
        Check.due("none goes backwards", x.lacks(3, 2, 0), Check.NONE);
        x.sleep(0, 0);
        Check.due("where it is already no line goes", x.lacks(0, 4, 0), Check.NONE);
        PersonLines dead = Check.town("p;p1;l3 0,1;");
        dead.die(0);
        Check.due("of the dead, too", dead.lacks(0, 1, 0), 2);
        PersonLines own = Check.town("p;p1;p0,3;p0,0,0;p0,0,0,0;p9,9,9,9,9;l3 1,2,3,0,5,4;l0 5,1;");
        own.sleep(5, 1);
        Check.due("beyond nine, past itself", own.lacks(5, 4, 0), 3 + 6);
    }

    private static void lacksOfLike() {
        PersonLines x = Check.town("p;p1;p0,0;l2 0,2;l2 0,1;l2 0,1;l1 2,0,1;");
        Check.due("of like ones", x.lacks(0, 1, 0), 1);
        Check.due("the least", x.lacks(0, 1, 1), 1);
    }

    private static void meet() {
        PersonLines x = Check.town(Check.FOUR);
        Check.due("meet -1", x.meet(-1), Check.UNKNOWN);
        Check.due("meet 4", x.meet(4), Check.UNKNOWN);
        Check.due("itself", x.meet(2), 4);
        x.ride(0, 1, 1);
        Check.due("two", x.meet(2), 5);
        Check.due("none", x.meet(0), 0);
        x.die(2);
        Check.due("who lives", x.meet(2), 1);
    }

    private static void pairs() {
        PersonLines x = Check.town(Check.FOUR);
        Check.due("pairs", x.told(6), 7);
        x.ride(0, 1, 1);
        Check.due("from its own gate", x.told(6), 7);
        x.die(0);
        Check.due("the dead reaches none, but is reached", x.told(6), 5);
        x.end(3, 2);
        Check.due("by another end", x.told(6), 4);
    }

    private static void bestEnd() {
        Check.due("the end as it is, or like ones", Check.town(Check.FOUR).bestEnd(), 702);
        Check.due("no lines", Check.town("p;p9;").bestEnd(), Check.NONE);
        PersonLines x = Check.town("p;p9;p0,0;l1 0,2;");
        Check.due("better than it is", x.bestEnd(), 101);
        x.end(0, 1);
        Check.due("as it is", x.bestEnd(), 101);
        x.die(0);
        Check.due("none is reached", x.bestEnd(), 1);
        PersonLines line = Check.town("p;p0;p9,9;l1 0,1;l1 1,0;");
        Check.due("by line 0, in 2", line.bestEnd(), 102);
        line.die(2);
        Check.due("in the dead", line.bestEnd(), 102);
        PersonLines later = Check.town("p;p9;p0,9;l1 0,1;l1 1,0;");
        Check.due("pairs", later.told(6), 2);
        Check.due("by line 1, in 2", later.bestEnd(), 201);
        PersonLines second = Check.town("p;p5;p0,5;p0,0,0;l1 0,1;l1 1,3;");
        Check.due("the second line", second.bestEnd(), 210);
    }

    private static void warm() {
        PersonLines x = Check.town(Check.FOUR);
        Check.due("warm", x.warm(), 8);
        PersonLines away = Check.town("p;p0;l3 0,1;");
        away.sleep(0, 0);
        Check.due("from their own gates", away.warm(), 0);
        Check.due("all six stops", Check.town("p;p5;p5,9;p5,9,9;p5,9,9,9;p5,9,9,9,9;l1 0,1,2,3,4,5;").warm(), 4);
        Check.due("none is visited", Check.town("p;p0;l1 0,1;").warm(), 0);
        Check.due("eight", Check.town("p;p1;l1 0,1;").warm(), 8);
        Check.due("none nearer", Check.town("p;p9;l1 0,1;").warm(), 0);
        PersonLines dead = Check.town("p;p1;p2,0;l1 0,1;l1 2,0;");
        Check.due("warm", dead.warm(), 8);
        dead.die(1);
        Check.due("not by the dead", dead.warm(), 0);
        // 2 takes line 2 at first, as it may not go on by line 1; from the second morning on 1 comes to 0, too.
        PersonLines asRides = Check.town("p;p1;p2,0;l1 0,1;l1 2,1,0;l1 2,0;");
        Check.due("visits change as they get nearer", asRides.warm(), 10);
    }

    /** Found by search; the last would have 101 mornings. */
    private static void warmStopsAt99() {
        Check.due("98 mornings", Check.town("p;p7;p6,0;p0,0,4;p0,4,0,5;p9,0,5,1,7;p2,4,0,0,3,0;p0,5,3,7,0,0,0;"
                + "l2 1,3,6,7,2,4;l3 0,2,7,4,1;l3 3,4,5,7,6,0;l3 5,2,6,1;l3 2,7,5,6;l1 7,1,4;").warm(), 98);
        Check.due("99 at most", Check.town("p;p0;p0,0;p1,0,0;p3,2,1,0;p4,3,0,5,0;p0,9,3,0,2,0;p0,7,0,0,7,4,0;"
                + "l3 6,2,7,5,0;l2 3,5,7,6,4;l2 7,0,5,2,6,3;l2 1,2,4,3,6,0;l3 4,5,7,6;l0 7,4,1,0,3,6;").warm(), 99);
        PersonLines x = Check.town("p;p0;p0,0;p0,0,0;p0,0,0,0;p0,0,0,0,0;p0,0,0,0,0,0;p0,0,0,0,0,0,0;"
                + "l0 0,1;l0 2,1;l0 3,1;l0 4,1;l0 5,1;l0 6,1;");
        Check.due("all at once", x.warm(), 9);
        Check.due("nothing is changed", x.told(7), 0);
    }

    private static void names() {
        PersonLines x = new PersonLines();
        Check.due("names -1", x.names(-1, 0), Check.OUTSIDE);
        Check.due("names 61", x.names(61, 0), Check.OUTSIDE);
        Check.due("names by -1", x.names(0, -1), Check.OUTSIDE);
        Check.due("names by 1001", x.names(0, 1001), Check.OUTSIDE);
        Check.due("no days", x.names(0, 1000), 1000000000);
        Check.due("sure", x.names(60, 0), 1000000000);
        Check.due("never", x.names(1, 1000), 0);
        Check.due("a day", x.names(1, 1), 999000000);
        Check.due("cut each day", x.names(4, 1), 996005996);
        Check.due("60 days", x.names(60, 10), 547156620);
        Check.due("60 days by halves", x.names(60, 500), 0);
        Check.due("30 days by halves", x.names(29, 500), 1);
    }

    private static void nothingChanges() {
        PersonLines x = Check.town(Check.FOUR);
        x.ride(0, 0, 5);
        x.sleep(2, 2);
        x.seed(4);
        String ahead = shown(x);
        x.ways(1, 2, 0);
        x.reached(1);
        x.cuts(1, 2);
        x.lacks(1, 3, 0);
        x.meet(1);
        x.bestEnd();
        x.warm();
        x.names(4, 4);
        x.could();
        x.lookAt();
        x.judge();
        Check.holds("all is as it was", shown(x).equals(ahead));
        Check.due("the seed, too", x.seed(0), 4);
    }

    private static String shown(PersonLines x) {
        StringBuilder all = new StringBuilder();
        for (int what = 0; what <= 10; what++) {
            all.append(x.told(what)).append(' ');
        }
        for (int p = 0; p < 4; p++) {
            all.append(x.at(p)).append(' ');
            for (int q = 0; q < 4; q++) {
                all.append(x.near(p, q)).append(' ').append(x.line(p, q)).append(' ');
            }
        }
        return all.toString();
    }
}
