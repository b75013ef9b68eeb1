/** The edges that section 3 names for what is tried, and promises 16 to 23, sentence by sentence. */
public final class EdgesTriedTest {
    private static final int LEAST = Integer.MIN_VALUE, MOST = Integer.MAX_VALUE;
    private static final int[] WRONG = {LEAST, -1000000001, -2, -1, 4, 5, 8, 32, MOST};

    public static void main(String[] args) {
        waysFewest();
        waysOfLike();
        waysNone();
        waysThereAlready();
        waysAsFarAsOneWill();
        onFromWhereOneCameAsleep();
        formerLinesAreGone();
        waysAreRefused();
        reached();
        reachedIsRefused();
        cuts();
        cutsNone();
        cutsAreRefused();
        lacksHowMuch();
        lacksOfLike();
        lacksNone();
        lacksOfTheDead();
        lacksAreRefused();
        meet();
        pairs();
        bestEndNone();
        bestEndLeast();
        bestEndOfLike();
        bestEndAsItIs();
        warmTillNone();
        warmLeastLine();
        warmElseItStays();
        warmOfTheDead();
        warm99();
        names();
        namesCut();
        namesAreRefused();
        nothingChanges();
        Check.finish();
    }

    private static void waysFewest() {
        Check.of("WAYS: RIDES one behind the other: the fewest");
        String eight = Check.persons(8, 9);
        PersonLines direct = Check.town(eight + "l0 0,1,2,3,4,5;l0 0,7;l0 7,5;");
        Check.due("one ride of five stops", direct.ways(0, 5, 0), 1);
        Check.due("by line 0", direct.ways(0, 5, 1), 0);
        PersonLines ring = Check.town(eight + "l0 0,1;l0 1,2;l0 2,3;l0 3,4;l0 4,5;l0 5,6;");
        for (int q = 0; q <= 6; q++) {
            Check.due("to " + q, ring.ways(0, q, 0), q);
        }
        // Person 0 may go on past 5 neither from 1 nor to it, so that line 0 serves twice.
        PersonLines longest = Check.town("p;p9;p9,9;p9,9,9;p9,9,9,9;p0,9,9,9,9;p9,9,9,9,9,9;p9,9,9,9,9,9,9;"
                + "l1 0,1,5,3,4;l0 1,2;l0 2,3;l0 4,5;l0 5,6;l0 6,7;");
        Check.due("seven rides, the most", longest.ways(0, 7, 0), 7);
        Check.due("by line 0", longest.ways(0, 7, 1), 0);
        Check.due("reached by seven rides", longest.reached(0), 255);
        Check.due("each LINE is needed", longest.cuts(0, 7), 63);
    }

    private static void waysOfLike() {
        Check.of("the LINE of the first one (of like ones the least)");
        PersonLines x = Check.town(Check.persons(4, 9) + "l0 2,3;l0 1,3;l0 0,2;l0 0,1;l0 0,1;");
        Check.due("two rides", x.ways(0, 3, 0), 2);
        Check.due("by 2, not 3", x.ways(0, 3, 1), 2);
        Check.due("to 1 by 3, not 4", x.ways(0, 1, 1), 3);
        PersonLines longer = Check.town(Check.persons(4, 9) + "l0 0,1;l0 1,2;l0 2,3;l0 0,2;");
        Check.due("the least LINE would need three", longer.ways(0, 3, 1), 3);
        PersonLines dear = Check.town("p;p2;p9,9;l3 0,1;l2 0,1;l1 0,1;");
        Check.due("not one by which it may not", dear.ways(0, 1, 1), 1);
    }

    private static void waysNone() {
        Check.of("NONE: by none");
        PersonLines x = Check.town("p;p1;p9,9;l2 0,1,2;");
        Check.due("too dear", x.ways(0, 1, 0), Check.NONE);
        Check.due("too dear: no LINE", x.ways(0, 1, 1), Check.NONE);
        Check.due("behind what is too dear", x.ways(0, 2, 0), Check.NONE);
        Check.due("none goes backwards", x.ways(2, 0, 0), Check.NONE);
        PersonLines none = Check.town("p;p9;");
        Check.due("no lines", none.ways(0, 1, 0), Check.NONE);
        Check.due("no lines: no LINE", none.ways(0, 1, 1), Check.NONE);
    }

    private static void waysThereAlready() {
        Check.of("(0 RIDES, NONE: it is there already)");
        PersonLines x = Check.town("p;p9;p9,9;l0 0,1;l0 1,0;");
        Check.due("at home", x.ways(0, 0, 0), 0);
        Check.due("at home: no LINE", x.ways(0, 0, 1), Check.NONE);
        x.ride(0, 0, 1);
        Check.due("where it is", x.ways(0, 1, 0), 0);
        Check.due("where it is: no LINE", x.ways(0, 1, 1), Check.NONE);
        Check.due("home", x.ways(0, 0, 0), 1);
        Check.due("home by 1", x.ways(0, 0, 1), 1);
        Check.due("one person", Check.town("p;").ways(0, 0, 0), 0);
    }

    private static void waysAsFarAsOneWill() {
        Check.of("each as far as one will that may go on");
        PersonLines x = Check.town("p;p9;p9,9;p9,9,9;l0 0,1,2;l0 1,3;");
        Check.due("off at the middle", x.ways(0, 3, 0), 2);
        Check.due("off at the middle: the LINE", x.ways(0, 3, 1), 0);
        Check.of("(NEAR stays as it is, nobody sleeps)");
        PersonLines asleep = Check.town("p;p2;l3 0,1;");
        Check.due("not asleep", asleep.ways(0, 1, 0), Check.NONE);
        Check.due("exactly enough", Check.town("p;p3;l3 0,1;").ways(0, 1, 0), 1);
        PersonLines self = Check.town(Check.persons(5, 9) + "l3 0,1,2,3,4;l0 4,0;");
        self.ride(4, 1, 1);
        Check.due("12 is more than one is to oneself", self.ways(4, 4, 0), Check.NONE);
    }

    /** Person 0 came asleep to 2, to whom it is near by 1: that is less than the STOP would ask, and is not asked again. */
    private static void onFromWhereOneCameAsleep() {
        Check.of("TRIED from now: from where it is AT, however it came there");
        PersonLines x = Check.town("p;p0;p0,0;p9,0,0;l3 0,2;l3 1,2,3;");
        Check.due("asleep", x.sleep(0, 0), 1);
        Check.due("ways", x.ways(0, 3, 0), 1);
        Check.due("the LINE", x.ways(0, 3, 1), 1);
        Check.due("reached", x.reached(0), 0b1100);
        Check.due("cuts", x.cuts(0, 3), 2);
        Check.due("lacks nothing", x.lacks(0, 3, 0), 0);
        Check.due("by the LINE", x.lacks(0, 3, 1), 1);
        Check.due("rides there", x.ride(0, 1, 1), 3);
    }

    private static void formerLinesAreGone() {
        Check.of("THE TEXT becomes THE TOWN: what was told ahead is gone");
        PersonLines x = Check.town(Check.persons(4, 9) + "l0 0,1,2;l0 0,3;l0 0,3;");
        Check.feedAll(x, Check.persons(4, 9) + "l0 0,1;l0 0,2;");
        x.town();
        Check.due("not by what line 0 had", x.ways(0, 2, 1), 1);
        Check.due("not by line 2", x.ways(0, 3, 0), Check.NONE);
        Check.due("reached", x.reached(0), 7);
        Check.due("lacks", x.lacks(0, 3, 0), Check.NONE);
        Check.due("lacks, by the LINE", x.lacks(0, 2, 1), 1);
        Check.due("cuts", x.cuts(0, 2), 2);
        Check.due("pairs", x.told(6), 2);
        Check.due("stop 2", x.line(0, 2), Check.OUTSIDE);
        Check.due("to the end", x.ride(0, 0, 5), 1);
    }

    private static void waysAreRefused() {
        Check.of("Promise 16: what = 0, 1; UNKNOWN, OUTSIDE, NOT: p is DEAD");
        PersonLines x = Check.town(Check.FOUR);
        for (int wrong : WRONG) {
            Check.due("p = " + wrong, x.ways(wrong, 0, 0), Check.UNKNOWN);
            Check.due("q = " + wrong, x.ways(0, wrong, 1), Check.UNKNOWN);
        }
        for (int what : new int[] {LEAST, -2, -1, 2, 3, MOST}) {
            Check.due("what = " + what, x.ways(0, 1, what), Check.OUTSIDE);
        }
        x.die(1);
        Check.due("q is dead", x.ways(0, 1, 0), 1);
        Check.due("p is dead", x.ways(1, 0, 0), Check.NOT);
        Check.due("p is dead, and there", x.ways(1, 1, 1), Check.NOT);
        Check.due("new object", new PersonLines().ways(0, 0, 0), Check.UNKNOWN);
    }

    private static void reached() {
        Check.of("REACHED: to whose gates one comes so (where it is, too)");
        PersonLines x = Check.town(Check.persons(8, 9) + "l0 0,1,2,3,4,5;l0 5,6,7;");
        Check.due("all", x.reached(0), 255);
        Check.due("from 7 none but its own", x.reached(7), 128);
        x.sleep(0, 0);
        Check.due("from where it is, not its own", x.reached(0), 0b11100000);
        Check.due("alone", Check.town("p;").reached(0), 1);
        PersonLines dead = Check.town("p;p9;p9,9;l0 0,1,2;");
        dead.die(1);
        dead.die(2);
        Check.due("gates of the dead", dead.reached(0), 7);
    }

    private static void reachedIsRefused() {
        Check.of("Promise 17: UNKNOWN, NOT: it is DEAD");
        PersonLines x = Check.town(Check.FOUR);
        for (int wrong : WRONG) {
            Check.due("p = " + wrong, x.reached(wrong), Check.UNKNOWN);
        }
        x.die(3);
        Check.due("dead", x.reached(3), Check.NOT);
        Check.due("new object", new PersonLines().reached(0), Check.UNKNOWN);
    }

    private static void cuts() {
        Check.of("CUTS: LINES (a SET) without each of which alone one would not come there");
        PersonLines x = Check.town(Check.persons(7, 9) + "l0 5,6;l0 0,1;l0 1,2,3;l0 1,3;l0 3,4;l0 4,5;");
        Check.due("all but the two that stand for each other", x.cuts(0, 6), 0b110011);
        Check.due("to 3: but one", x.cuts(0, 3), 0b000010);
        Check.due("to 2", x.cuts(0, 2), 0b000110);
        Check.due("one", x.cuts(5, 6), 0b000001);
        PersonLines both = Check.town("p;p9;l0 0,1;l1 0,1;");
        Check.due("none of two is needed", both.cuts(0, 1), 0);
        PersonLines dear = Check.town("p;p1;l3 0,1;l1 0,1;");
        Check.due("the other is too dear", dear.cuts(0, 1), 2);
        PersonLines away = Check.town("p;p9;p9,9;l0 0,1;l0 1,2;l0 2,0;");
        away.ride(0, 0, 1);
        Check.due("from where it is", away.cuts(0, 0), 6);
        away.die(2);
        Check.due("past the dead", away.cuts(0, 0), 6);
    }

    private static void cutsNone() {
        Check.of("0: there is no way with them all, or it is there already");
        PersonLines x = Check.town("p;p1;p9,9;l2 0,1,2;l0 2,0;");
        Check.due("no way", x.cuts(0, 1), 0);
        Check.due("no LINE that way", x.cuts(1, 0), 2 | 1);
        Check.due("there already", x.cuts(0, 0), 0);
        x.sleep(0, 0);
        Check.due("there already", x.cuts(0, 2), 0);
        Check.due("no lines", Check.town("p;p9;").cuts(0, 1), 0);
    }

    private static void cutsAreRefused() {
        Check.of("Promise 18: UNKNOWN, NOT: p is DEAD");
        PersonLines x = Check.town(Check.FOUR);
        for (int wrong : WRONG) {
            Check.due("p = " + wrong, x.cuts(wrong, 0), Check.UNKNOWN);
            Check.due("q = " + wrong, x.cuts(0, wrong), Check.UNKNOWN);
        }
        x.die(0);
        Check.due("p is dead", x.cuts(0, 1), Check.NOT);
        Check.due("p is dead, and there", x.cuts(0, 0), Check.NOT);
        Check.due("q is dead", x.cuts(3, 0), 8);
    }

    private static void lacksHowMuch() {
        Check.of("LACKS: by how much NEARER one must be, together, to all that are passed: how much (0: it may)");
        String six = "p;p0;p1,0;p2,0,0;p3,0,0,0;p4,0,0,0,0;";
        for (int fare = 0; fare <= 3; fare++) {
            PersonLines x = Check.town(six + "l" + fare + " 0,1,2,3,4,5;");
            int lack = 0;
            for (int q = 1; q <= 5; q++) {
                lack += Math.max(0, q * fare - (q - 1));
                Check.due("fare " + fare + " to " + q, x.lacks(0, q, 0), lack);
                Check.due("by line 0", x.lacks(0, q, 1), 0);
            }
        }
        PersonLines more = Check.town("p;p3;p9,0;l3 0,1,2;");
        Check.due("it may: 0", more.lacks(0, 2, 0), 0);
        PersonLines much = Check.town("p;p9;p5,0;l3 0,1,2;");
        Check.due("what is over to one helps not to another", much.lacks(0, 2, 0), 1);
        PersonLines self = Check.town(Check.persons(6, 9) + "l3 0,1,2,3,5,4;l0 5,0;");
        self.sleep(5, 1);
        Check.due("past itself, by 12 less 9, and 15 less 9", self.lacks(5, 4, 0), 3 + 6);
        PersonLines middle = Check.town("p;p0;p0,0;l3 0,1,2;");
        Check.due("from the middle: k counts from the first STOP", middle.lacks(1, 2, 0), 6);
    }

    private static void lacksOfLike() {
        Check.of("least; of like ones the least LINE");
        PersonLines x = Check.town("p;p1;p0,0;l3 0,1;l2 0,1;l2 0,1;l1 0,2,1;l0 2,1;");
        Check.due("1", x.lacks(0, 1, 0), 1);
        Check.due("by line 1", x.lacks(0, 1, 1), 1);
        PersonLines none = Check.town("p;p1;l1 0,1;l0 0,1;");
        Check.due("both may", none.lacks(0, 1, 0), 0);
        Check.due("by line 0", none.lacks(0, 1, 1), 0);
    }

    private static void lacksNone() {
        Check.of("by one LINE alone from where it is AT; NONE: no LINE goes");
        PersonLines x = Check.town("p;p9;p9,9;p9,9,9;l0 0,1;l0 1,2;");
        Check.due("two would", x.lacks(0, 2, 0), Check.NONE);
        Check.due("two would: no LINE", x.lacks(0, 2, 1), Check.NONE);
        Check.due("backwards", x.lacks(1, 0, 0), Check.NONE);
        Check.due("not there", x.lacks(3, 0, 0), Check.NONE);
        x.ride(0, 0, 1);
        Check.due("from where it is", x.lacks(0, 2, 0), 0);
        Check.due("no LINE goes from there to there", x.lacks(0, 1, 0), Check.NONE);
        Check.due("no lines", Check.town("p;p9;").lacks(0, 1, 1), Check.NONE);
        Check.due("the END it was", endedAnew().lacks(0, 1, 0), Check.NONE);
        Check.due("the END it is", endedAnew().lacks(0, 2, 0), 3);
    }

    private static PersonLines endedAnew() {
        PersonLines x = Check.town("p;p9;p0,9;l3 0,1;");
        x.end(0, 2);
        return x;
    }

    private static void lacksOfTheDead() {
        Check.of("Promise 19 has no NOT");
        PersonLines x = Check.town("p;p1;p2,0;l3 0,1,2;");
        x.die(0);
        Check.due("p is dead", x.lacks(0, 2, 0), 2 + 4);
        Check.due("p is dead: the LINE", x.lacks(0, 2, 1), 0);
        x.die(1);
        Check.due("past the dead", x.lacks(0, 2, 0), 2 + 4);
    }

    private static void lacksAreRefused() {
        Check.of("Promise 19: UNKNOWN (one twice), OUTSIDE");
        PersonLines x = Check.town(Check.FOUR);
        for (int wrong : WRONG) {
            Check.due("p = " + wrong, x.lacks(wrong, 0, 0), Check.UNKNOWN);
            Check.due("q = " + wrong, x.lacks(0, wrong, 1), Check.UNKNOWN);
        }
        for (int p = 0; p < 4; p++) {
            Check.due("one twice", x.lacks(p, p, 0), Check.UNKNOWN);
        }
        x.ride(0, 0, 1);
        Check.due("one twice, away from home", x.lacks(0, 0, 0), Check.UNKNOWN);
        Check.due("one twice goes ahead of OUTSIDE", x.lacks(0, 0, 2), Check.UNKNOWN);
        for (int what : new int[] {LEAST, -2, -1, 2, 3, MOST}) {
            Check.due("what = " + what, x.lacks(0, 1, what), Check.OUTSIDE);
        }
    }

    private static void meet() {
        Check.of("MEET: PERSONS (a SET, all that live) AT a gate. Promise 20: UNKNOWN");
        PersonLines x = Check.town(Check.persons(8, 0) + "l0 0,7;l0 1,7;l0 2,7;l0 3,7;l0 4,7;l0 5,7;");
        for (int wrong : new int[] {LEAST, -1, 8, 9, 32, MOST}) {
            Check.due("q = " + wrong, x.meet(wrong), Check.UNKNOWN);
        }
        for (int p = 0; p < 6; p++) {
            Check.due("itself alone", x.meet(p), 1 << p);
            x.ride(p, p, 1);
            Check.due("none", x.meet(p), 0);
        }
        Check.due("all but 6", x.meet(7), 0b10111111);
        x.die(0);
        x.die(7);
        Check.due("all that live", x.meet(7), 0b00111110);
        Check.due("new object", new PersonLines().meet(0), Check.UNKNOWN);
    }

    private static void pairs() {
        Check.of("PAIRS: a PERSON alive and another one's gate (alive or not), that from its own gate is REACHED by it");
        PersonLines x = Check.town(Check.persons(8, 9) + "l0 0,1,2,3,4,5;l0 5,6,7,0;");
        Check.due("all", x.told(6), 56);
        x.sleep(3, 0);
        Check.due("from its own gate", x.told(6), 56);
        x.die(3);
        Check.due("the dead is reached still", x.told(6), 49);
        for (int p = 0; p < 8; p++) {
            x.die(p);
        }
        Check.due("none alive", x.told(6), 0);
        Check.due("one person", Check.town("p;").told(6), 0);
        Check.due("no lines", Check.town("p;p9;").told(6), 0);
        Check.due("exactly enough", Check.town("p;p6;p5,9;l3 0,2,1;l2 1,2,0;").told(6), 6);
        Check.due("one less", Check.town("p;p5;p5,9;l3 0,2,1;l2 1,2,0;").told(6), 5);
    }

    private static void bestEndNone() {
        Check.of("BEST END: NONE: no LINES");
        Check.due("no lines", Check.town("p;p9;").bestEnd(), Check.NONE);
        Check.due("no town", new PersonLines().bestEnd(), Check.NONE);
    }

    private static void bestEndLeast() {
        Check.of("100 times PAIRS, 10 times the LINE, the PERSON");
        Check.due("no pairs, line 0, person 0", Check.town("p;p0;p0,0;l1 1,2;").bestEnd(), 0);
        Check.due("no pairs, line 0, person 1", Check.town("p;p0;l1 0,1;").bestEnd(), 1);
        PersonLines all = Check.town(Check.persons(8, 9) + "l0 0,1,2,3,4,5;l0 5,6,7,0;");
        Check.due("56 pairs, line 0, person 5", all.bestEnd(), 5605);
        // Line 5 alone may go to 7: the others' riders are near to nobody there.
        PersonLines last = Check.town("p;p0;p0,0;p0,0,0;p0,0,0,0;p0,0,0,0,0;p0,0,0,0,0,0;p0,0,0,0,0,9,0;"
                + "l1 0,1;l1 1,0;l1 2,1;l1 3,1;l1 4,1;l1 5,1;");
        Check.due("one pair, line 5, person 7", last.bestEnd(), 157);
    }

    private static void bestEndOfLike() {
        Check.of("of like ones the least LINE, then PERSON");
        PersonLines x = Check.town(Check.persons(4, 9) + "l1 3,0;l1 1,0;");
        Check.due("pairs now", x.told(6), 2);
        Check.due("line 0 in 1, so that 3 comes to 1 and 0, too", x.bestEnd(), 301);
        PersonLines like = Check.town("p;p0;p0,0;p9,9,9;l1 3,0;l1 3,0;");
        Check.due("line 0 in 1, as line 0 in 2, line 1 in 1 or 2", like.bestEnd(), 201);
        PersonLines second = Check.town("p;p5;p0,5;p0,0,0;l1 0,1;l1 1,3;");
        Check.due("line 1 in 0, as line 1 in 2", second.bestEnd(), 210);
    }

    private static void bestEndAsItIs() {
        Check.of("ENDS as they are count, too");
        PersonLines x = Check.town("p;p9;p0,0;l1 0,1;");
        Check.due("as it is, alone", x.bestEnd(), 101);
        Check.due("every PERSON is a STOP", Check.town("p;p9;l1 0,1;").bestEnd(), 101);
        x.end(0, 2);
        Check.due("as it was", x.bestEnd(), 101);
        PersonLines first = Check.town("p;p9;p9,9;l1 0,2;");
        Check.due("like, but greater as it is", first.bestEnd(), 101);
        PersonLines least = Check.town("p;p9;p9,9;l1 2,0;");
        Check.due("like, and least as it is", least.bestEnd(), 100);
        Check.of("who is not a STOP of it");
        Check.due("line 1 in 0 would be best, but it stops there", Check.town("p;p9;p0,0;p0,0,0;l0 2,0;l1 0,1,3;").bestEnd(), 200);
        Check.of("by which, were that its END, PAIRS are most");
        Check.due("line 2 in 0, with 0 and 1 as they are", Check.town("p;p9;p9,9;p0,0,0;l1 0,1;l1 1,2;l1 2,3;").bestEnd(), 620);
        x.die(1);
        Check.due("in the dead", x.bestEnd(), 101);
        x.die(0);
        Check.due("no pairs", x.bestEnd(), 1);
    }

    private static void warmTillNone() {
        Check.of("WARM: how many MORNINGS there are by which some two get NEARER, till the first by which none do");
        for (int n = 0; n <= 9; n++) {
            Check.due("near " + n + ", without a fare", Check.town("p;p" + n + ";l0 0,1;").warm(), 9 - n);
            Check.due("near " + n + ", fare 3", Check.town("p;p" + n + ";l3 0,1;").warm(), n < 3 ? 0 : 9 - n);
        }
        Check.due("no town", new PersonLines().warm(), 0);
        Check.due("one person", Check.town("p;").warm(), 0);
        Check.due("no lines", Check.town("p;p0;").warm(), 0);
        Check.of("all are AT their own gates");
        PersonLines away = Check.town("p;p0;p3,0;l3 0,1;l0 2,1;");
        away.sleep(0, 0);
        away.sleep(2, 1);
        Check.due("8 of 2 with 1; 0 is not there", away.warm(), 8);
        PersonLines alone = Check.town("p;p0;l3 0,1;");
        alone.sleep(0, 0);
        Check.due("from there one would get nearer", alone.warm(), 0);
        Check.due("where it was it is still", alone.at(0), 1);
    }

    private static void warmLeastLine() {
        Check.of("rides by the least LINE on which it may go on from its own gate, as far as it may");
        Check.due("by line 0", Check.town("p;p9;p9,0;l0 0,1;l0 0,2;").warm(), 0);
        Check.due("by line 1, as it may not by 0", Check.town("p;p1;p6,0;l2 0,1;l0 0,2;").warm(), 3);
        Check.due("past 1 to 2, where 1 comes, too", Check.town("p;p5;p7,9;l0 0,1,2;").warm(), 4);
        Check.due("not past 1", Check.town("p;p5;p1,0;l1 0,1,2;").warm(), 4);
        Check.due("not by one that stops last there", Check.town("p;p0;p4,9;l0 1,2,0;l0 0,2;").warm(), 0);
    }

    private static void warmElseItStays() {
        Check.of("(else it stays)");
        Check.due("1 stays, and is visited", Check.town("p;p4;l1 0,1;l3 1,0;").warm(), 0);
        Check.due("1 stays, and is visited", Check.town("p;p2;l1 0,1;l3 1,0;").warm(), 1);
        Check.due("both change places", Check.town("p;p0;l0 0,1;l0 1,0;").warm(), 0);
    }

    private static void warmOfTheDead() {
        Check.of("each PERSON alive rides");
        PersonLines x = Check.town("p;p4;p6,7;l0 0,2;l0 1,2;");
        Check.due("5: 0 and 1", x.warm(), 5);
        x.die(2);
        Check.due("at the gate of the dead", x.warm(), 5);
        x.die(0);
        Check.due("1 alone", x.warm(), 0);
    }

    private static void warm99() {
        Check.of("(99 at most)");
        String ahead = "p;p7;p6,0;p0,0,4;p0,4,0,5;p9,0,5,1,7;p2,4,0,0,3,0;p0,5,3,7,0,0,0;"
                + "l2 1,3,6,7,2,4;l3 0,2,7,4,1;l3 3,4,5,7,6,0;l3 5,2,6,1;l3 2,7,5,6;l1 7,1,4;";
        Check.due("98", Check.town(ahead).warm(), 98);
        String persons = "p;p0;p0,0;p1,0,0;p3,2,1,0;p4,3,0,5,0;p0,9,3,0,2,0;p0,7,0,0,7,4,0;";
        String lines = "l3 6,2,7,5,0;l2 3,5,7,6,4;l2 7,0,5,2,6,3;l2 1,2,4,3,6,0;l3 4,5,7,6;l0 7,4,1,0,3,6;";
        Check.due("101 by rides and mornings", mornings(persons, lines), 101);
        Check.due("99 at most", Check.town(persons + lines).warm(), 99);
    }

    /** As WARM tells it, by ride() and morning(); each day is an object of its own, as one is for 512 calls at most. */
    private static int mornings(String persons, String lines) {
        String now = persons;
        for (int day = 0; day < 200; day++) {
            PersonLines x = Check.town(now + lines);
            int ahead = x.told(7);
            for (int p = 0; p < x.told(0); p++) {
                int gate = p;
                for (int l = 0; l < x.told(1) && gate == p; l++) {
                    x.ride(p, l, 5);
                    gate = x.at(p);
                }
            }
            if (x.morning(1) == ahead) {
                return day;
            }
            now = personsOf(x);
        }
        return Check.NONE;
    }

    private static String personsOf(PersonLines x) {
        StringBuilder text = new StringBuilder();
        for (int p = 0; p < x.told(0); p++) {
            text.append('p');
            for (int q = 0; q < p; q++) {
                text.append(q == 0 ? "" : ",").append(x.near(p, q));
            }
            text.append(';');
        }
        return text.toString();
    }

    private static void names() {
        Check.of("NAMES: n DAYS (0 .. 60), each by q of a thousand (0 .. 1000)");
        PersonLines x = new PersonLines();
        Check.due("0, 0", x.names(0, 0), 1000000000);
        Check.due("0, 1000", x.names(0, 1000), 1000000000);
        Check.due("60, 0", x.names(60, 0), 1000000000);
        Check.due("60, 1000", x.names(60, 1000), 0);
        Check.due("1, 1000", x.names(1, 1000), 0);
        Check.due("1, 1", x.names(1, 1), 999000000);
        Check.due("1, 999", x.names(1, 999), 1000000);
        Check.due("with a town", Check.town(Check.FOUR).names(2, 100), 810000000);
    }

    private static void namesCut() {
        Check.of("a BILLION times (1000 less q) / 1000 each (cut)");
        PersonLines x = new PersonLines();
        Check.due("3, 999", x.names(3, 999), 1);
        Check.due("4, 999", x.names(4, 999), 0);
        Check.due("60, 999", x.names(60, 999), 0);
        Check.due("3, 1", x.names(3, 1), 997002999);
        Check.due("4, 1: 996005996.001 is cut", x.names(4, 1), 996005996);
        Check.due("9, 500", x.names(9, 500), 1953125);
        Check.due("10, 500: cut", x.names(10, 500), 976562);
        Check.due("11, 500: cut each", x.names(11, 500), 488281);
        Check.due("29, 500", x.names(29, 500), 1);
        Check.due("30, 500", x.names(30, 500), 0);
        Check.due("60, 10", x.names(60, 10), 547156620);
    }

    private static void namesAreRefused() {
        Check.of("Promise 23: OUTSIDE");
        PersonLines x = new PersonLines();
        for (int n : new int[] {LEAST, -1, 61, 62, 1000, MOST}) {
            Check.due("n = " + n, x.names(n, 0), Check.OUTSIDE);
            Check.due("both", x.names(n, -1), Check.OUTSIDE);
        }
        for (int q : new int[] {LEAST, -1, 1001, 1002, MOST}) {
            Check.due("q = " + q, x.names(0, q), Check.OUTSIDE);
        }
    }

    private static String shown(PersonLines x) {
        StringBuilder all = new StringBuilder();
        for (int what = 0; what <= 10; what++) {
            all.append(x.told(what)).append(' ');
        }
        for (int p = 0; p < 4; p++) {
            all.append(x.at(p)).append(' ').append(x.line(p, -2)).append(' ');
            for (int q = 0; q < 4; q++) {
                all.append(x.near(p, q)).append(' ').append(x.line(p, q)).append(' ');
            }
        }
        int seed = x.seed(0);
        x.seed(seed);
        return all.append(seed).append(' ').append(x.fault()).toString();
    }

    private static void nothingChanges() {
        Check.of("TRIED from now; nothing changes by it");
        PersonLines x = Check.town(Check.FOUR);
        x.seed(99);
        x.sleep(0, 1);
        x.ride(3, 3, 1);
        x.die(1);
        x.see(0, 1);
        x.write(0, 0);
        String ahead = shown(x);
        int[] answers = {x.ways(0, 1, 0), x.ways(2, 1, 1), x.reached(2), x.cuts(3, 1), x.lacks(2, 1, 0), x.meet(2), x.bestEnd(),
            x.warm(), x.names(60, 1), x.could(), x.lookAt(), x.judge()};
        Check.holds("as it was", shown(x).equals(ahead));
        int[] again = {x.ways(0, 1, 0), x.ways(2, 1, 1), x.reached(2), x.cuts(3, 1), x.lacks(2, 1, 0), x.meet(2), x.bestEnd(),
            x.warm(), x.names(60, 1), x.could(), x.lookAt(), x.judge()};
        for (int i = 0; i < answers.length; i++) {
            Check.due("asked again", again[i], answers[i]);
        }
        x.undo(3);
        Check.due("undone", x.near(0, 2), 5);
    }
}
