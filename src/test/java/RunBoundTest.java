/**
 * The bounds of plans that are run, of ways and of replays (Terms, part 2; promises 19 to 26): for
 * each sentence that names one a test of its own, at the bound and beside it.
 */
public final class RunBoundTest {
    private static final Check CHECK = new Check();
    private static final long TOP = 1_099_511_627_775L;
    /** 398 STEPS of which each is refused, with 52 "again" that are none. */
    private static final String NEARLY = "again 50[again 7[pop;];];again 48[pop;];";

    public static void main(String[] args) {
        noPlan();
        refusedStepsChangeNothing();
        pushBeyondTwoHundred();
        stepsOfItemsThatNeverCame();
        fourHundredSteps();
        loopsThatAreCutOff();
        loopsOfNothing();
        fromAnEmptyQueue();
        mostMovesOfOne();
        nothingOfOlderPlans();
        bucketsThatEverHadItems();
        takenOfAll();
        keysOfThoseTaken();
        fewestOfSeveral();
        noChart();
        nothingOfOlderCharts();
        neverReached();
        theFirstNode();
        lessenedIfLess();
        notYetReached();
        alikeOnesByTheOneAhead();
        farAsCanBe();
        sixteenNodes();
        waitedAtMostAtOnce();
        movesOnTheWay();
        notAboveThatTime();
        fewerThanTwoHundred();
        threeHundredItems();
        rulesAsTold();
        timesOfReplay();
        happenedOfAll();
        CHECK.end("RunBoundTest");
    }

    private static DueQueue planned(String text) {
        DueQueue x = new DueQueue();
        CHECK.due("a sound plan: " + text, 1, Check.plan(x, text) >= 0 ? 1 : 0);
        return x;
    }

    private static DueQueue charted(String text) {
        DueQueue x = new DueQueue();
        CHECK.due("a sound chart: " + text, 1, Check.chart(x, text) >= 0 ? 1 : 0);
        return x;
    }

    /**
     * STEPS done, REFUSED ones, ITEMS taken, that wait, MOVES, the most of one, LAST, BUCKETS: each
     * asked of an object of its own, so that what one RUN leaves behind can't make up for the next.
     */
    private static void runDue(String plan, int bits, long... due) {
        for (int what = 0; what < due.length; what++) {
            DueQueue x = planned(plan);
            CHECK.due("run " + what + " of '" + plan + "'", due[what], x.run(bits, what));
        }
    }

    private static void wayDue(DueQueue x, int bits, int from, int to, long... due) {
        for (int what = 0; what < due.length; what++) {
            CHECK.due("way from " + from + " to " + to + ", " + what, due[what], x.way(bits, from, to, what));
        }
    }

    /** How many happened, LAST, how many wait, MOVES, how often A to H. */
    private static void replayDue(DueQueue x, int bits, long till, long... due) {
        for (int what = 0; what < due.length; what++) {
            CHECK.due("replay till " + till + ", " + what, due[what], x.replay(bits, till, what));
        }
    }

    // ---- plans

    private static void noPlan() {
        for (int bits = 1; bits <= 4; bits++) {
            runDue("", bits, 0, 0, 0, 0, 0, 0, 0, 0);
        }
        DueQueue x = planned("pop;");
        CHECK.throwing("none is taken", Check.ELEMENT, () -> x.taken(1, 0, 0));
    }

    /** "STEP by STEP, REFUSED ones change nothing" */
    private static void refusedStepsChangeNothing() {
        runDue("push 5;pop;push 4;push 5;", 1, 4, 1, 1, 1, 1, 1, 5, 2);
        runDue("push 5;less 0 6;", 1, 2, 1, 0, 1, 0, 0, 0, 1);
        runDue("push 5;less 0 5;", 1, 2, 0, 0, 1, 0, 0, 0, 1);
        runDue("push 5;push 6;pop;less 1 4;", 1, 4, 1, 1, 1, 2, 1, 5, 3);
        runDue("push 5;push 6;pop;less 1 5;", 1, 4, 0, 1, 1, 3, 2, 5, 3);
        runDue("push 5;pop;pop;", 1, 3, 1, 1, 0, 1, 1, 5, 2);
        runDue("push 5;pop;drop 0;less 0 5;", 1, 4, 2, 1, 0, 1, 1, 5, 2);
        runDue("push 5;drop 0;drop 0;less 0 5;pop;", 1, 5, 3, 0, 0, 0, 0, 0, 1);
    }

    /** ""push" beyond 200 ITEMS, too" */
    private static void pushBeyondTwoHundred() {
        runDue("again 49[again 4[push 5;];];again 3[push 5;];", 1, 199, 0, 0, 199);
        runDue("again 50[again 4[push 5;];];", 1, 200, 0, 0, 200);
        runDue("again 50[again 4[push 5;];];push 5;", 1, 201, 1, 0, 200);
        runDue("again 50[again 4[push 5;];];pop;push 5;push 6;", 1, 203, 2, 1, 199, 200, 1, 5, 2);
        runDue("again 50[again 4[push 5;];];drop 0;push 5;pop;", 1, 203, 1, 1, 198);
        // 200 of them came and were taken, one by one; the 201st is refused.
        runDue("again 50[again 3[push 5;pop;];];again 49[push 5;];push 5;push 5;pop;", 1, 352, 1, 151, 49);
    }

    /** ""less", "drop" of an ITEM that never came, too" */
    private static void stepsOfItemsThatNeverCame() {
        runDue("less 0 0;drop 0;", 1, 2, 2, 0, 0);
        runDue("push 5;less 1 0;", 1, 2, 1, 0, 1);
        runDue("push 5;less 2 0;", 1, 2, 1, 0, 1);
        runDue("push 5;drop 1;", 1, 2, 1, 0, 1);
        runDue("push 5;drop 199;", 1, 2, 1, 0, 1);
        runDue("push 5;less 1 0;drop 1;", 1, 3, 2, 0, 1);
        runDue("push 5;less 0 0;drop 0;", 1, 3, 0, 0, 0);
        runDue("again 50[again 4[push 5;];];less 199 4;drop 199;", 1, 202, 0, 0, 199);
        runDue("again 49[again 4[push 5;];];again 3[push 5;];less 199 4;drop 199;", 1, 201, 2, 0, 199);
        // It comes later: refused at first, then done.
        runDue("again 2[drop 1;push 5;];drop 1;", 1, 5, 2, 0, 1);
    }

    /** "At most 400 STEPS are done (an "again" is none itself), what would come behind is left out." */
    private static void fourHundredSteps() {
        runDue(NEARLY, 1, 398, 398, 0, 0);
        runDue(NEARLY + "push 1;", 1, 399, 398, 0, 1);
        runDue(NEARLY + "push 1;push 1;", 1, 400, 398, 0, 2);
        runDue(NEARLY + "push 1;push 1;push 1;", 1, 400, 398, 0, 2);
        runDue(NEARLY + "push 1;push 1;pop;pop;", 1, 400, 398, 0, 2, 0, 0, 0, 1);
        runDue(NEARLY + "push 1;again 0[pop;];again 1[push 1;];push 1;", 1, 400, 398, 0, 2);
        runDue("again 50[again 8[push 5;];];", 1, 400, 200, 0, 200);
        runDue("again 50[again 8[push 5;];];pop;", 1, 400, 200, 0, 200);
        DueQueue x = planned("again 50[again 50[again 50[push 5;pop;];];];");
        CHECK.due("as it is written", 5, x.told(1));
        CHECK.due("done", 400, x.run(1, 0));
        CHECK.due("taken", 200, x.run(1, 2));
    }

    private static void loopsThatAreCutOff() {
        // Three STEPS a time: 133 times, and the push of the next one.
        runDue("again 50[again 50[push 5;pop;pop;];];", 1, 400, 133, 133, 1);
        runDue("pop;again 50[again 50[push 5;pop;pop;];];", 1, 400, 134, 133, 0);
        runDue("pop;pop;again 50[again 50[push 5;pop;pop;];];", 1, 400, 134, 133, 0);
        // A loop that is left out behind the 400th, and one within it.
        runDue(NEARLY + "again 3[push 1;again 2[push 2;];];", 1, 400, 398, 0, 2);
        runDue(NEARLY + "pop;pop;again 50[again 50[push 1;];];push 1;", 1, 400, 400, 0, 0);
        // What is gone through no time leaves its room to what comes behind.
        runDue("again 0[" + NEARLY + "pop;pop;pop;];push 1;", 1, 1, 0, 0, 1);
        runDue("push 1;again 0[again 50[again 9[push 2;];];];push 3;pop;", 1, 3, 0, 1, 1, 1, 1, 1);
        runDue("again 2[push 1;again 0[again 50[" + "pop;".repeat(9) + "];];];pop;", 1, 3, 0, 1, 1);
    }

    private static void loopsOfNothing() {
        runDue("again 0[];again 50[];again 50[again 50[again 50[];];];push 1;", 1, 1, 0, 0, 1);
        runDue("again 50[again 0[push 1;];];", 1, 0, 0, 0, 0);
        runDue("again 1[push 1;];", 1, 1, 0, 0, 1);
        runDue("again 2[push 1;];", 1, 2, 0, 0, 2);
    }

    /** "It is RUN from an empty QUEUE by any DIGITS": not from those by hand, nor from a RUN before */
    private static void fromAnEmptyQueue() {
        DueQueue x = planned("push 3;push 2;pop;");
        x.digits(4);
        x.push(0, 9);
        x.pop(0);
        x.push(0, 12);
        long[] moves = {0, 2, 1, 1, 1};
        for (int turn = 0; turn < 2; turn++) {
            for (int bits = 1; bits <= 4; bits++) {
                CHECK.due("STEPS", 3, x.run(bits, 0));
                CHECK.due("none is REFUSED", 0, x.run(bits, 1));
                CHECK.due("MOVES by " + bits, moves[bits], x.run(bits, 4));
                CHECK.due("LAST", 2, x.run(bits, 6));
                CHECK.due("ITEM 1 is taken", 1, x.taken(bits, 0, 0));
            }
        }
        CHECK.due("by hand, 12 waits", 12, x.queue(0, 4));
        CHECK.due("and LAST is 9", 9, x.queue(0, 0));
    }

    /** "5 the most MOVES of one ITEM": the first, one between, and the last of them */
    private static void mostMovesOfOne() {
        runDue("push 15;push 8;push 12;pop;pop;", 1, 5, 0, 2, 1, 5, 2);
        runDue("push 8;push 15;push 12;pop;pop;", 1, 5, 0, 2, 1, 5, 2);
        runDue("push 8;push 12;push 15;pop;pop;pop;", 1, 6, 0, 3, 0, 6, 3);
        runDue("push 9;drop 0;", 1, 2, 0, 0, 0, 0, 0);
        runDue("push 9;less 0 4;less 0 2;less 0 1;less 0 0;drop 0;", 1, 6, 0, 0, 0, 4, 4);
    }

    /** "The first n bytes of the TAPE .. are the PLAN": those before it are none of it any more */
    private static void nothingOfOlderPlans() {
        DueQueue x = new DueQueue();
        Check.plan(x, "push 8;push 12;push 15;pop;pop;pop;");
        CHECK.due("the most MOVES of the old one", 3, x.run(1, 5));
        Check.plan(x, "push 1;push 1;less 2 0;drop 2;");
        long[] due = {4, 2, 0, 2, 0, 0, 0, 1};
        for (int what = 0; what <= 7; what++) {
            CHECK.due("run " + what + " of the new one", due[what], x.run(1, what));
        }
        CHECK.throwing("none is taken by it", Check.ELEMENT, () -> x.taken(1, 0, 0));
        Check.plan(x, "push 3;");
        CHECK.due("STEPS of a third one", 1, x.run(1, 0));
        CHECK.due("one waits by it", 1, x.run(1, 3));
    }

    /** "7 BUCKETS that ever had ITEMS": each once, and those that have none any more */
    private static void bucketsThatEverHadItems() {
        CHECK.due("none", 0, planned("pop;").run(1, 7));
        CHECK.due("BUCKET 0", 1, planned("push 0;pop;").run(1, 7));
        CHECK.due("twice the same", 1, planned("push 8;push 9;").run(1, 7));
        CHECK.due("dropped", 1, planned("push 8;drop 0;").run(1, 7));
        CHECK.due("lessened", 2, planned("push 8;less 0 7;drop 0;").run(1, 7));
        CHECK.due("by the deal, BUCKET 0, too", 2, planned("push 8;pop;").run(1, 7));
        // By 4 bits: BUCKETS 0, 1, 63, 64, 65, 108.
        DueQueue x = planned("push 0;push 1;push 196608;push 262144;push 327680;push 1000000000;");
        CHECK.due("six by 4 bits", 6, x.run(4, 7));
        CHECK.due("and by 1 bit 262144, 327680 in one", 5, x.run(1, 7));
        StringBuilder all = new StringBuilder();
        for (int place = 0; place < 30; place++) {
            all.append("push").append(1 << place).append(';');
        }
        CHECK.due("30 by 1 bit", 30, planned(all.toString()).run(1, 7));
    }

    /** "The k-th ITEM that is taken by it .. NoSuchElementException: not so many are." */
    private static void takenOfAll() {
        DueQueue x = planned("again 50[again 4[push 7;pop;];];");
        for (int k : new int[] {0, 1, 198, 199}) {
            CHECK.due("taken " + k, k, x.taken(2, k, 0));
            CHECK.due("its KEY", 7, x.taken(2, k, 1));
        }
        CHECK.throwing("taken 200 of 200", Check.ELEMENT, () -> x.taken(2, 200, 0));
        CHECK.throwing("taken -1", Check.ELEMENT, () -> x.taken(2, -1, 0));
        DueQueue y = planned("push 9;push 8;pop;drop 0;");
        CHECK.due("the only one", 1, y.taken(1, 0, 0));
        CHECK.throwing("one that was dropped is none", Check.ELEMENT, () -> y.taken(1, 1, 0));
    }

    private static void keysOfThoseTaken() {
        DueQueue x = planned("push 1000000000;push 0;push 7;less 2 5;pop;pop;pop;");
        long[] keys = {0, 5, 1_000_000_000};
        int[] items = {1, 2, 0};
        for (int k = 0; k < 3; k++) {
            CHECK.due("ITEM", items[k], x.taken(3, k, 0));
            CHECK.due("KEY", keys[k], x.taken(3, k, 1));
        }
    }

    /** "The bits of DIGITS with the fewest MOVES, the PLAN RUN; of several the fewest bits." */
    private static void fewestOfSeveral() {
        fewestDue("", 1, 0, 0, 0, 0);
        fewestDue("push 6;push 3;pop;", 1, 1, 1, 1, 1);
        fewestDue("push 3;push 2;pop;", 2, 2, 1, 1, 1);
        fewestDue("push 8;push 13;pop;", 2, 2, 1, 2, 1);
        fewestDue("push 5;push 4;pop;", 3, 2, 2, 1, 1);
        // 37 and 47 are 100 101 and 101 111: only by 3 bits their highest digits differ.
        fewestDue("push 37;push 47;pop;", 3, 2, 2, 1, 2);
        fewestDue("push 9;push 8;pop;", 4, 2, 2, 2, 1);
    }

    private static void fewestDue(String plan, int fewest, int... moves) {
        DueQueue x = planned(plan);
        for (int bits = 1; bits <= 4; bits++) {
            CHECK.due("MOVES of '" + plan + "' by " + bits, moves[bits - 1], x.run(bits, 4));
        }
        CHECK.due("fewest of '" + plan + "'", fewest, x.fewest());
    }

    // ---- ways

    private static void noChart() {
        DueQueue x = new DueQueue();
        long[] due = {1, 0, 0, 0, 1};
        for (int node = 0; node < 16; node++) {
            wayDue(x, 1, node, node, 0, -1, 0, 0, 0, 0);
            wayDue(x, 1, node, 15 - node, -1, -1, -1, -1, 0, 0);
            CHECK.due("nodes", 1 << node, x.nodes(1, node, node));
            CHECK.due("no nodes", 0, x.nodes(1, node, 15 - node));
        }
        for (int what = 0; what <= 4; what++) {
            CHECK.due("ways " + what, due[what], x.ways(1, 15, what));
        }
    }

    /** A CHART takes the place of the one before, and has nothing of that, nor of one before it. */
    private static void nothingOfOlderCharts() {
        DueQueue x = new DueQueue();
        String old = "edge 0 1 5;edge 0 2 5;edge 0 3 5;event A 1;event B 1;event C 1;"
                + "rule A 1 D;rule A 1 E;rule A 1 F;";
        String now = "edge 0 1 5;edge 0 2 5;event A 1;event B 1;rule A 1 D;rule A 1 E;";
        Check.chart(x, old);
        Check.chart(x, old);
        for (int turn = 0; turn < 2; turn++) {
            Check.chart(x, now);
            CHECK.due("three are REACHED", 3, x.ways(1, 0, 0));
            CHECK.due("3 is not", -1, x.way(1, 0, 3, 0));
            // A, B are moved as the first one is taken, D, E as the third one is.
            replayDue(x, 1, 9, 4, 2, 0, 4, 1, 1, 0, 1, 1, 0);
        }
    }

    /** "A NODE that is never REACHED is far NONE." */
    private static void neverReached() {
        DueQueue x = charted("edge 0 1 0;edge 2 0 5;edge 2 1 5;");
        wayDue(x, 1, 0, 1, 0, 0, 1, 1, 0, 0);
        wayDue(x, 1, 0, 2, -1, -1, -1, -1, 0, 0);
        CHECK.due("no NODES on the way", 0, x.nodes(1, 0, 2));
        CHECK.due("far 0 is not NONE", 3, x.nodes(1, 0, 1));
        CHECK.due("two are REACHED", 2, x.ways(1, 0, 0));
        CHECK.due("three from 2", 3, x.ways(1, 2, 0));
    }

    /** "1 the NODE BY which it comes (NONE: the first one ..)" */
    private static void theFirstNode() {
        DueQueue x = charted("edge 3 3 0;edge 3 4 2;edge 4 3 0;");
        wayDue(x, 1, 3, 3, 0, -1, 0, 0, 0, 0);
        wayDue(x, 1, 4, 4, 0, -1, 0, 0, 0, 0);
        wayDue(x, 1, 4, 3, 0, 4, 1, 1, 0, 0);
        CHECK.due("both", 24, x.nodes(1, 3, 4));
        CHECK.due("itself alone", 8, x.nodes(1, 3, 3));
    }

    /** "LESSENED, if that is less than its KEY: it comes BY the NODE then" */
    private static void lessenedIfLess() {
        wayDue(charted("edge 0 1 9;edge 0 2 1;edge 2 1 7;"), 1, 0, 1, 8, 2, 2, 2, 1, 1);
        wayDue(charted("edge 0 1 9;edge 0 2 1;edge 2 1 8;"), 1, 0, 1, 9, 0, 2, 1, 1, 0);
        wayDue(charted("edge 0 1 9;edge 0 2 1;edge 2 1 9;"), 1, 0, 1, 9, 0, 2, 1, 1, 0);
        wayDue(charted("edge 0 1 9;edge 0 1 8;edge 0 1 8;edge 0 1 7;"), 1, 0, 1, 7, 0, 1, 1, 2, 2);
        DueQueue x = charted("edge 0 1 9;edge 0 2 9;edge 0 1 8;edge 0 2 8;");
        CHECK.due("each once", 2, x.ways(1, 0, 3));
    }

    /** "to a NODE that is not yet REACHED" */
    private static void notYetReached() {
        DueQueue x = charted("edge 0 1 3;edge 1 0 0;edge 1 1 0;edge 1 2 0;edge 2 1 0;");
        wayDue(x, 1, 0, 0, 0, -1, 0, 0, 0, 0);
        wayDue(x, 1, 0, 1, 3, 0, 1, 1, 1, 0);
        wayDue(x, 1, 0, 2, 3, 1, 2, 2, 0, 0);
        CHECK.due("none was LESSENED", 0, x.ways(1, 0, 3));
        CHECK.due("three are REACHED", 3, x.ways(1, 0, 0));
    }

    /** "(of alike ones by the one ahead)" */
    private static void alikeOnesByTheOneAhead() {
        DueQueue x = charted("edge 0 1 1;edge 0 2 1;edge 2 3 4;edge 1 3 4;");
        wayDue(x, 1, 0, 3, 5, 1, 3, 2);
        CHECK.due("0, 1, 3", 11, x.nodes(1, 0, 3));
        DueQueue y = charted("edge 0 2 1;edge 0 1 1;edge 2 3 4;edge 1 3 4;");
        wayDue(y, 1, 0, 3, 5, 2, 3, 2);
        CHECK.due("0, 2, 3", 13, y.nodes(1, 0, 3));
        DueQueue z = charted("edge 0 1 1;edge 0 2 1;edge 2 3 3;edge 1 3 4;");
        wayDue(z, 1, 0, 3, 4, 2, 3, 2);
    }

    private static void farAsCanBe() {
        StringBuilder text = new StringBuilder();
        for (int node = 0; node < 15; node++) {
            text.append("edge").append(node).append(' ').append(node + 1).append(" 1000000000;");
        }
        DueQueue x = charted(text.toString());
        for (int bits = 1; bits <= 4; bits++) {
            CHECK.due("15 times the greatest K", 15_000_000_000L, x.way(bits, 0, 15, 0));
            CHECK.due("15 EDGES", 15, x.way(bits, 0, 15, 3));
            CHECK.due("the 16th", 15, x.way(bits, 0, 15, 2));
            CHECK.due("the farthest", 15_000_000_000L, x.ways(bits, 0, 2));
            CHECK.due("all NODES", 65_535, x.nodes(bits, 0, 15));
        }
    }

    /** NODE 0 to 15: all of them at once, and 50 EDGES, which are as many as 500 bytes hold. */
    private static void sixteenNodes() {
        StringBuilder text = new StringBuilder();
        for (int node = 15; node >= 1; node--) {
            text.append("edge0 ").append(node).append(' ').append(node).append(';');
        }
        DueQueue x = charted(text.toString());
        CHECK.due("all are REACHED", 16, x.ways(1, 0, 0));
        CHECK.due("15 wait at once", 15, x.ways(1, 0, 4));
        CHECK.due("the farthest", 15, x.ways(1, 0, 2));
        for (int node = 1; node < 16; node++) {
            wayDue(x, 1, 0, node, node, 0, node, 1);
            CHECK.due("nodes", 1 << node | 1, x.nodes(1, 0, node));
        }
        DueQueue y = charted("edge0 1 9;".repeat(49) + "edge0 1 8;");
        wayDue(y, 1, 0, 1, 8, 0, 1, 1, 1, 1);
    }

    /** "4 how many waited at most at once (counted behind each NODE's EDGES, and at first)" */
    private static void waitedAtMostAtOnce() {
        CHECK.due("at first", 1, charted("edge 1 0 0;").ways(1, 0, 4));
        CHECK.due("one behind the other", 1, charted("edge 0 1 1;edge 1 2 1;").ways(1, 0, 4));
        CHECK.due("two", 2, charted("edge 0 1 1;edge 0 2 1;").ways(1, 0, 4));
        CHECK.due("behind the second's EDGES", 3, charted("edge 0 1 1;edge 0 2 9;edge 1 3 1;edge 1 4 1;")
                .ways(1, 0, 4));
        CHECK.due("LESSENED ones are no more", 1, charted("edge 0 1 9;edge 0 1 8;").ways(1, 0, 4));
    }

    /** "4 its MOVES (0, if it never waited)", "1 MOVES of all" */
    private static void movesOnTheWay() {
        DueQueue x = charted("edge 0 1 8;edge 0 2 12;edge 0 3 15;edge 4 5 1;");
        long[] moves = {0, 1, 2, 3, 0, 0};
        for (int node = 0; node < 6; node++) {
            CHECK.due("MOVES of " + node, moves[node], x.way(1, 0, node, 4));
        }
        CHECK.due("MOVES of all", 6, x.ways(1, 0, 1));
        CHECK.due("by 4 bits", 3, x.ways(4, 0, 1));
        DueQueue y = charted("edge 0 1 0;");
        CHECK.due("far 0: none is moved", 0, y.ways(1, 0, 1));
    }

    // ---- events

    /** "the least KEY is not above that time" */
    private static void notAboveThatTime() {
        DueQueue x = charted("event C 5;event A 3;rule A 2 B;");
        replayDue(x, 1, 2, 0, 0, 2, 0, 0, 0, 0);
        replayDue(x, 1, 3, 1, 3, 2, 1, 1, 0, 0);
        replayDue(x, 1, 4, 1, 3, 2, 1, 1, 0, 0);
        replayDue(x, 1, 5, 3, 5, 0, 3, 1, 1, 1);
        DueQueue y = charted("event A 0;rule A 0 B;rule B 1 C;");
        replayDue(y, 1, 0, 2, 0, 1, 0, 1, 1, 0);
        replayDue(y, 1, 1, 3, 1, 0, 1, 1, 1, 1);
        DueQueue z = charted("event A 1000000000;");
        replayDue(z, 1, 999_999_999, 0, 0, 1);
        replayDue(z, 1, 1_000_000_000, 1, 1_000_000_000, 0);
    }

    /** "and fewer than 200 have happened" */
    private static void fewerThanTwoHundred() {
        DueQueue x = charted("event A 1;rule A 1 A;");
        replayDue(x, 1, 199, 199, 199, 1);
        replayDue(x, 1, 200, 200, 200, 1);
        replayDue(x, 1, 201, 200, 200, 1);
        replayDue(x, 1, TOP, 200, 200, 1);
        CHECK.due("A happened so often", 200, x.replay(1, TOP, 4));
        // All at one time: what comes by a RULE of 0 later waits behind those that lie there.
        DueQueue y = charted("event A 7;rule A 0 B;rule B 0 A;");
        replayDue(y, 1, 7, 200, 7, 1, 1, 100, 100);
        replayDue(y, 1, 6, 0, 0, 1, 0, 0, 0);
        // 8 A bring 96 B, these 96 C: 200 happen and none waits; with one EVENT more one waits.
        String justSo = "eventA0;".repeat(8) + "ruleA0B;".repeat(12) + "ruleB0C;";
        replayDue(charted(justSo), 1, 0, 200, 0, 0, 0, 8, 96, 96);
        replayDue(charted(justSo + "eventD0;"), 1, 0, 200, 0, 1, 0, 8, 96, 95, 1);
    }

    /** "where 300 ITEMS have come no more do" */
    private static void threeHundredItems() {
        // 1, then 2 more by each: 299 behind 149, of the next two one alone comes.
        replayDue(charted("event A 0;rule A 1 A;rule A 1 A;"), 1, TOP, 200, 7, 100);
        // 12, then 16 more by each: 300 behind 18, just so.
        replayDue(charted("eventA0;".repeat(12) + "ruleA0A;".repeat(16)), 1, 0, 200, 0, 100);
        // 11 A, 88 B: 99. Each B brings a D at once and 7 C later: 299 behind 25 B, the 26th still
        // brings its D, and nothing comes behind it.
        DueQueue x = charted("eventA0;".repeat(11) + "ruleA1B;".repeat(8) + "ruleB0D;" + "ruleB1C;".repeat(7));
        replayDue(x, 1, 1, 125, 1, 175, 88, 11, 88, 0, 26);
        CHECK.due("the last D", 3, x.happened(1, 1, 124, 0));
        CHECK.throwing("no more by then", Check.ELEMENT, () -> x.happened(1, 1, 125, 0));
        CHECK.due("200 of 300 happen", 100, x.replay(1, 2, 2));
        CHECK.due("75 C among them", 75, x.replay(1, 2, 6));
        // The same with 12 A: 108, 300 behind 24 B, just so.
        DueQueue y = charted("eventA0;".repeat(12) + "ruleA1B;".repeat(8) + "ruleB0D;" + "ruleB1C;".repeat(7));
        replayDue(y, 1, 1, 132, 1, 168, 96, 12, 96, 0, 24);
    }

    /** "EVENTS are PUSHED, as told", "for each RULE of it, as told" */
    private static void rulesAsTold() {
        DueQueue x = charted("event H 4;event A 4;rule A 0 C;rule H 0 G;rule A 0 B;rule H 0 F;");
        int[] due = {7, 0, 6, 5, 2, 1};
        for (int k = 0; k < due.length; k++) {
            CHECK.due("happened " + k, due[k], x.happened(2, 4, k, 0));
        }
        replayDue(x, 2, 4, 6, 4, 0, 2, 1, 1, 1, 0, 0, 1, 1, 1);
        DueQueue y = charted("event A 4;event A 4;");
        replayDue(y, 2, 4, 2, 4, 0, 2, 2);
    }

    /** "REPLAY till a time (0 to 1,099,511,627,775)" */
    private static void timesOfReplay() {
        DueQueue x = charted("event A 1000000000;rule A 1000000000 A;event B 0;");
        for (int bits = 1; bits <= 4; bits++) {
            CHECK.due("till 0", 1, x.replay(bits, 0, 0));
            CHECK.due("till the top: 200", 200, x.replay(bits, TOP, 0));
            CHECK.due("LAST", 199_000_000_000L, x.replay(bits, TOP, 1));
            CHECK.due("the 200th's time", 199_000_000_000L, x.happened(bits, TOP, 199, 1));
        }
        CHECK.throwing("till -1", Check.ARGUMENT, () -> x.replay(1, -1, 0));
        CHECK.throwing("till the top and 1", Check.ARGUMENT, () -> x.replay(1, TOP + 1, 0));
    }

    /** "The k-th that happens .. NoSuchElementException: not so many do." */
    private static void happenedOfAll() {
        DueQueue x = charted("event A 1;rule A 1 B;rule B 1 A;");
        for (int k : new int[] {0, 1, 2, 198, 199}) {
            CHECK.due("which " + k, k % 2, x.happened(1, TOP, k, 0));
            CHECK.due("at what time " + k, k + 1, x.happened(1, TOP, k, 1));
        }
        CHECK.throwing("k 200", Check.ELEMENT, () -> x.happened(1, TOP, 200, 0));
        CHECK.throwing("k -1", Check.ELEMENT, () -> x.happened(1, TOP, -1, 0));
        CHECK.due("till 3, k 2", 0, x.happened(1, 3, 2, 0));
        CHECK.throwing("till 2, k 2", Check.ELEMENT, () -> x.happened(1, 2, 2, 0));
        CHECK.throwing("till 0, k 0", Check.ELEMENT, () -> x.happened(1, 0, 0, 0));
    }
}
