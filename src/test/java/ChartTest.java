/** Promises 22 to 26: shortest ways, and events that bring others. */
public final class ChartTest {
    private static final Check CHECK = new Check();
    private static final long TOP = 1_099_511_627_775L;

    public static void main(String[] args) {
        wayTells();
        alikeWays();
        waysTell();
        nodesOnTheWay();
        farWays();
        wrongNodes();
        replayTells();
        replayIsBounded();
        happenedTells();
        wrongTimes();
        nothingStays();
        CHECK.end("ChartTest");
    }

    private static DueQueue with(String chart) {
        DueQueue x = new DueQueue();
        CHECK.due("a sound chart: " + chart, 1, Check.chart(x, chart) >= 0 ? 1 : 0);
        return x;
    }

    private static void wayDue(DueQueue x, int bits, int from, int to, long... due) {
        for (int what = 0; what < due.length; what++) {
            CHECK.due("way(" + bits + ", " + from + ", " + to + ", " + what + ")", due[what],
                    x.way(bits, from, to, what));
        }
    }

    private static void wayTells() {
        // From 0: 1 comes with 9, 2 with 2. 2 is taken (a move), by it 1 is lessened to 8 (the
        // highest unlike bit of 9 and of 8 against 2 is the same: no move), 3 comes with 3.
        DueQueue x = with("edge 0 1 9;edge 0 2 2;edge 2 1 6;edge 2 3 1;edge 3 1 1;edge 1 0 1;edge 4 0 1;");
        wayDue(x, 1, 0, 0, 0, -1, 0, 0, 0, 0);
        wayDue(x, 1, 0, 2, 2, 0, 1, 1, 1, 0);
        wayDue(x, 1, 0, 3, 3, 2, 2, 2, 1, 0);
        // By 3 node 1 is lessened to 4: from bucket 4 to bucket 3, a move; and one as it is taken.
        wayDue(x, 1, 0, 1, 4, 3, 3, 3, 2, 2);
        wayDue(x, 1, 0, 4, -1, -1, -1, -1, 0, 0);
        wayDue(x, 1, 0, 15, -1, -1, -1, -1, 0, 0);
        // By 4 bits: 9 in bucket 9, lessened to 8 in bucket 8, to 4 in bucket 4: two moves.
        wayDue(x, 4, 0, 1, 4, 3, 3, 3, 3, 2);
        wayDue(x, 2, 4, 0, 1, 4, 1, 1, 1, 0);
        wayDue(x, 2, 4, 4, 0, -1, 0, 0, 0, 0);
        wayDue(x, 3, 4, 1, 5, 3, 4, 4);
    }

    private static void alikeWays() {
        DueQueue x = with("edge 0 1 2;edge 0 2 2;edge 1 3 3;edge 2 3 3;edge 3 3 0;edge 0 0 5;");
        wayDue(x, 1, 0, 1, 2, 0, 1, 1, 1, 0);
        wayDue(x, 1, 0, 2, 2, 0, 2, 1, 1, 0);
        wayDue(x, 1, 0, 3, 5, 1, 3, 2);
        CHECK.due("an alike one is none that lessens", 0, x.way(1, 0, 3, 5));
        DueQueue y = with("edge 0 1 7;edge 0 1 5;edge 0 1 5;edge 0 1 6;");
        wayDue(y, 1, 0, 1, 5, 0, 1, 1, 1, 1);
        DueQueue v = with("edge 7 0 9;edge 7 6 1;edge 6 0 1;");
        CHECK.due("node 0 was lessened", 1, v.ways(1, 7, 3));
        DueQueue z = with("edge 5 6 0;edge 6 7 0;edge 7 5 0;");
        wayDue(z, 1, 5, 7, 0, 6, 2, 2, 0, 0);
    }

    private static void waysTell() {
        DueQueue x = with("edge 0 1 9;edge 0 2 2;edge 2 1 6;edge 2 3 1;edge 3 1 1;edge 1 0 1;edge 4 0 1;");
        long[] due = {4, 1 + 1 + 2, 4, 2, 2};
        for (int what = 0; what <= 4; what++) {
            CHECK.due("ways " + what, due[what], x.ways(1, 0, what));
        }
        CHECK.due("by 4 bits: moves", 5, x.ways(4, 0, 1));
        CHECK.due("from a lone node", 1, x.ways(1, 9, 0));
        CHECK.due("no moves", 0, x.ways(1, 9, 1));
        CHECK.due("not far", 0, x.ways(1, 9, 2));
        CHECK.due("it waited at first", 1, x.ways(1, 9, 4));
        DueQueue y = with("edge 0 1 1;edge 0 2 1;edge 0 3 1;edge 0 4 1;");
        CHECK.due("four at once", 4, y.ways(1, 0, 4));
        DueQueue all = with("edge0 1 1;edge1 2 1;edge2 3 1;edge3 4 1;edge4 5 1;edge5 6 1;edge6 7 1;"
                + "edge7 8 1;edge8 9 1;edge9 10 1;edge10 11 1;edge11 12 1;edge12 13 1;edge13 14 1;edge14 15 1;");
        CHECK.due("all nodes", 16, all.ways(2, 0, 0));
        CHECK.due("fifteen edges", 15, all.way(2, 0, 15, 3));
        CHECK.due("all on the way", 65535, all.nodes(2, 0, 15));
    }

    private static void nodesOnTheWay() {
        DueQueue x = with("edge 0 1 9;edge 0 2 2;edge 2 1 6;edge 2 3 1;edge 3 1 1;");
        CHECK.due("itself", 1, x.nodes(1, 0, 0));
        CHECK.due("itself, 15", 32768, x.nodes(1, 15, 15));
        CHECK.due("0 2 3 1", 15, x.nodes(1, 0, 1));
        CHECK.due("0 2", 5, x.nodes(1, 0, 2));
        CHECK.due("never reached", 0, x.nodes(1, 1, 0));
    }

    private static void farWays() {
        StringBuilder text = new StringBuilder();
        for (int node = 0; node < 15; node++) {
            text.append("edge").append(node).append(' ').append(node + 1).append(" 1000000000;");
        }
        DueQueue x = with(text.toString());
        for (int bits = 1; bits <= 4; bits++) {
            CHECK.due("beyond an int", 15_000_000_000L, x.way(bits, 0, 15, 0));
            CHECK.due("the farthest", 15_000_000_000L, x.ways(bits, 0, 2));
        }
    }

    private static void wrongNodes() {
        DueQueue x = with("edge 0 1 9;");
        CHECK.throwing("to 16", Check.ELEMENT, () -> x.way(1, 0, 16, 0));
        CHECK.throwing("to -1", Check.ELEMENT, () -> x.way(1, 0, -1, 0));
        CHECK.throwing("from 16", Check.ELEMENT, () -> x.way(1, 16, 0, 0));
        CHECK.throwing("from -1, bits 0", Check.ARGUMENT, () -> x.way(0, -1, 0, 0));
        CHECK.throwing("from -1, what 6", Check.ARGUMENT, () -> x.way(1, -1, 0, 6));
        CHECK.throwing("what -1", Check.ARGUMENT, () -> x.way(1, 0, 0, -1));
        CHECK.throwing("ways from 16", Check.ELEMENT, () -> x.ways(1, 16, 0));
        CHECK.throwing("ways from -1", Check.ELEMENT, () -> x.ways(1, -1, 0));
        CHECK.throwing("ways bits 5, from 16", Check.ARGUMENT, () -> x.ways(5, 16, 0));
        CHECK.throwing("ways what 5", Check.ARGUMENT, () -> x.ways(1, 0, 5));
        CHECK.throwing("ways what -1", Check.ARGUMENT, () -> x.ways(1, 16, -1));
        CHECK.throwing("nodes from 16", Check.ELEMENT, () -> x.nodes(1, 16, 0));
        CHECK.throwing("nodes to 16", Check.ELEMENT, () -> x.nodes(1, 0, 16));
        CHECK.throwing("nodes bits -1, to 16", Check.ARGUMENT, () -> x.nodes(-1, 0, 16));
        CHECK.due("arguments", 7, x.status(1));
        CHECK.due("elements", 7, x.status(3));
    }

    private static void replayDue(DueQueue x, int bits, long till, long... due) {
        for (int what = 0; what < due.length; what++) {
            CHECK.due("replay(" + bits + ", " + till + ", " + what + ")", due[what], x.replay(bits, till, what));
        }
    }

    private static void replayTells() {
        // B at 1 brings A at 5 and H at 1; A at 5 (told) brings B at 9, and so does the other A.
        DueQueue x = with("event A 5;event B 1;rule B 4 A;rule A 4 B;rule B 0 H;");
        replayDue(x, 1, 0, 0, 0, 2, 0, 0, 0);
        // By 1 bit: B is moved as it is taken; A, H of bucket 3 and 0 are not.
        replayDue(x, 1, 1, 2, 1, 2, 1, 0, 1, 0, 0, 0, 0, 0, 1);
        replayDue(x, 1, 4, 2, 1, 2, 1);
        replayDue(x, 1, 5, 4, 5, 2, 3, 2, 1, 0, 0, 0, 0, 0, 1);
        replayDue(x, 1, 9, 8, 9, 2, 5, 2, 3, 0, 0, 0, 0, 0, 3);
        DueQueue y = with("event A 1;event B 1;event C 1;event D 1;event E 1;event F 1;event G 1;event H 1;");
        replayDue(y, 3, TOP, 8, 1, 0, 8, 1, 1, 1, 1, 1, 1, 1, 1);
        replayDue(new DueQueue(), 1, TOP, 0, 0, 0, 0, 0, 0, 0, 0, 0, 0, 0, 0);
    }

    private static void replayIsBounded() {
        DueQueue x = with("event A 1000000000;rule A 1000000000 A;");
        replayDue(x, 4, TOP, 200, 200_000_000_000L, 1);
        // Each one brings two: the 300th comes before 200 have happened.
        DueQueue y = with("event A 0;rule A 1 A;rule A 1 A;");
        replayDue(y, 1, TOP, 200, 7, 100);
        // A rule of what never happens brings nothing.
        DueQueue z = with("eventA1;eventA1;eventA2;ruleB1B;");
        replayDue(z, 1, 1, 2, 1, 1, 2);
    }

    private static void happenedTells() {
        DueQueue x = with("event A 5;event B 1;rule B 4 A;rule A 4 B;rule B 0 H;");
        int[] letters = {1, 7, 0, 0, 1, 1, 7, 7};
        long[] times = {1, 1, 5, 5, 9, 9, 9, 9};
        for (int bits = 1; bits <= 4; bits++) {
            int use = bits;
            for (int k = 0; k < letters.length; k++) {
                CHECK.due("which " + k, letters[k], x.happened(bits, 9, k, 0));
                CHECK.due("when " + k, times[k], x.happened(bits, 9, k, 1));
            }
            CHECK.throwing("k 8", Check.ELEMENT, () -> x.happened(use, 9, 8, 0));
            CHECK.throwing("till 1, k 2", Check.ELEMENT, () -> x.happened(use, 1, 2, 0));
        }
        CHECK.throwing("k -1", Check.ELEMENT, () -> x.happened(1, 9, -1, 0));
        DueQueue y = with("event A 1000000000;rule A 1000000000 A;");
        CHECK.due("the last of 200", 200_000_000_000L, y.happened(1, TOP, 199, 1));
        CHECK.throwing("k 200", Check.ELEMENT, () -> y.happened(1, TOP, 200, 1));
    }

    private static void wrongTimes() {
        DueQueue x = with("event A 5;");
        CHECK.throwing("till -1", Check.ARGUMENT, () -> x.replay(1, -1, 0));
        CHECK.throwing("till too late", Check.ARGUMENT, () -> x.replay(1, TOP + 1, 0));
        CHECK.throwing("bits 0", Check.ARGUMENT, () -> x.replay(0, 1, 0));
        CHECK.throwing("bits 5", Check.ARGUMENT, () -> x.replay(5, 1, 0));
        CHECK.throwing("what 12", Check.ARGUMENT, () -> x.replay(1, 1, 12));
        CHECK.throwing("what -1", Check.ARGUMENT, () -> x.replay(1, 1, -1));
        CHECK.throwing("happened: till -1, k 9", Check.ARGUMENT, () -> x.happened(1, -1, 9, 0));
        CHECK.throwing("happened: till too late", Check.ARGUMENT, () -> x.happened(1, TOP + 1, 0, 0));
        CHECK.throwing("happened: bits 5, k 9", Check.ARGUMENT, () -> x.happened(5, 9, 9, 0));
        CHECK.throwing("happened: what 2, k 9", Check.ARGUMENT, () -> x.happened(1, 9, 9, 2));
        CHECK.throwing("happened: what -1", Check.ARGUMENT, () -> x.happened(1, 9, 0, -1));
        CHECK.due("counted", 11, x.status(1));
    }

    private static void nothingStays() {
        DueQueue x = with("edge 0 1 9;edge 0 2 2;edge 2 1 6;event A 5;rule A 4 B;");
        Check.plan(x, "push 9;pop;push 12;");
        x.push(0, 4);
        x.push(1, 6);
        long before = x.print();
        long run = x.run(1, 6);
        x.way(1, 0, 1, 0);
        x.ways(1, 0, 0);
        x.nodes(1, 0, 1);
        x.replay(3, 100, 0);
        x.happened(3, 100, 0, 0);
        CHECK.due("the queues stay", before, x.print());
        CHECK.due("DIGITS stay", 1, x.told(0));
        CHECK.due("ACTS stay", 2, x.told(6));
        CHECK.due("the PLAN is RUN as before", run, x.run(1, 6));
        CHECK.due("the WAYS, too", 8, x.way(1, 0, 1, 0));
    }
}
