/** Promises 19 to 21: plans that are gone through by digits of any width. */
public final class PlanTest {
    private static final Check CHECK = new Check();

    public static void main(String[] args) {
        runTells();
        refusedSteps();
        loopsAreUnrolled();
        atMostFourHundred();
        atMostTwoHundredItems();
        idleLoopsEnd();
        bucketsThatEverHadItems();
        takenTells();
        fewestMoves();
        wrongNumbers();
        nothingStays();
        CHECK.end("PlanTest");
    }

    private static DueQueue with(String plan) {
        DueQueue x = new DueQueue();
        CHECK.due("a sound plan: " + plan, 1, Check.plan(x, plan) >= 0 ? 1 : 0);
        return x;
    }

    private static void runDue(DueQueue x, int bits, long... due) {
        for (int what = 0; what < due.length; what++) {
            CHECK.due("run(" + bits + ", " + what + ")", due[what], x.run(bits, what));
        }
    }

    private static void runTells() {
        // By 1 bit: 12, 9, 13 lie in bucket 4, 3 in bucket 2. The first pop moves 3 to bucket 0;
        // the second one 9 to 0, 12 and 13 to 3; the third one 12 to 0, 13 to 1.
        DueQueue x = with("push 12;push 9;push 13;push 3;pop;pop;pop;");
        runDue(x, 1, 7, 0, 3, 1, 1 + 3 + 2, 2, 12, 5);
        // By 4 bits: buckets 12, 9, 13, 3; each pop moves only the one that it takes.
        runDue(x, 4, 7, 0, 3, 1, 3, 1, 12, 5);
        // By 2 bits: 12 = 30, 9 = 21, 13 = 31, 3 = 03: buckets 6, 5, 6, 3.
        runDue(x, 2, 7, 0, 3, 1, 1 + 1 + 2, 1, 12, 5);
        runDue(new DueQueue(), 3, 0, 0, 0, 0, 0, 0, 0, 0);
    }

    private static void refusedSteps() {
        runDue(with("pop;drop 0;less 0 0;"), 1, 3, 3, 0, 0, 0, 0, 0, 0);
        runDue(with("push 5;pop;push 4;less 0 5;drop 0;pop;"), 1, 6, 4, 1, 0, 1, 1, 5, 2);
        runDue(with("push 5;less 0 6;less 0 4;drop 1;drop 0;drop 0;less 0 4;"), 1, 7, 4, 0, 0, 0, 0, 0, 1);
        runDue(with("push 5;push 8;pop;less 1 4;less 1 5;"), 1, 5, 1, 1, 1, 2, 1, 5, 3);
    }

    private static void loopsAreUnrolled() {
        DueQueue x = with("again 3[push 2;again 2[push 7;pop;];pop;];push 9;");
        // Three times push, push, pop, push, pop, pop; then a push. From the second time on LAST is
        // 7: there "push 2" is refused, and so the last pop, too.
        runDue(x, 1, 19, 4, 7, 1);
        CHECK.due("as it is written", 7, x.told(1));
        runDue(with("again 0[push 1;];again 0[again 5[push 1;];];push 3;"), 1, 1, 0, 0, 1);
        runDue(with("again 5[again 0[push 1;];pop;];"), 1, 5, 5, 0, 0);
        runDue(with("again 1[again 1[again 1[push 4;];];];"), 1, 1, 0, 0, 1);
        // The second time items 2, 3 come; item 1 was lessened already, and dropped.
        DueQueue y = with("again 2[push 5;push 6;less 1 4;drop 1;];again 3[pop;];");
        runDue(y, 1, 11, 2, 3, 0);
        CHECK.due("item 0", 0, y.taken(1, 0, 0));
        CHECK.due("item 2", 2, y.taken(1, 1, 0));
        CHECK.due("item 3", 3, y.taken(1, 2, 0));
    }

    private static void atMostFourHundred() {
        runDue(with("again 50[again 8[drop 0;];];"), 1, 400, 400);
        runDue(with("again 50[again 7[drop 0;];];again 49[drop 0;];"), 1, 399, 399);
        runDue(with("again 50[again 7[drop 0;];];again 49[drop 0;];push 3;push 4;"), 1, 400, 399, 0, 1);
        runDue(with("again 50[again 50[again 50[push 5;pop;];];];push 9;"), 1, 400, 0, 200, 0);
        // 7 goes into 400 57 times, and one more: the last round is cut off behind its push.
        DueQueue x = with("again 50[again 2[push 5;pop;pop;pop;pop;pop;pop;];];");
        runDue(x, 1, 400, 57 * 5, 57, 1);
        // A loop that is not gone through at all leaves nothing, however long its body is.
        runDue(with("again 0[again 50[again 50[pop;];];];push 1;"), 1, 1, 0, 0, 1);
        runDue(with("push 1;again 0[again 50[again 50[pop;];];];again 3[push 2;];"), 1, 4, 0, 0, 4);
    }

    private static void atMostTwoHundredItems() {
        DueQueue x = with("again 50[again 4[push 5;];];pop;push 6;");
        runDue(x, 1, 202, 1, 1, 199, 200, 1, 5, 2);
        CHECK.due("items 0 to 199", 0, x.taken(1, 0, 0));
    }

    private static void idleLoopsEnd() {
        String idle = "again50[again50[again50[];again50[];again50[];];again50[];];";
        runDue(with(idle + idle + "pop;"), 1, 1, 1);
    }

    private static void bucketsThatEverHadItems() {
        CHECK.due("pushed and dropped", 1, with("push 9;drop 0;").run(1, 7));
        CHECK.due("bucket 0 by a pop", 2, with("push 9;pop;").run(1, 7));
        CHECK.due("by lessening", 2, with("push 9;less 0 3;").run(1, 7));
        CHECK.due("within a bucket", 1, with("push 9;less 0 8;").run(1, 7));
        CHECK.due("dealt out", 3, with("push 9;push 12;pop;").run(1, 7));
        CHECK.due("by 4 bits", 2, with("push 1000000000;push 15;less 0 999999999;").run(4, 7));
        CHECK.due("no ITEMS", 0, with("pop;").run(1, 7));
    }

    private static void takenTells() {
        DueQueue x = with("push 12;push 9;push 12;push 30;less 3 12;again 4[pop;];");
        for (int bits = 1; bits <= 4; bits++) {
            int[] items = {1, 0, 2, 3};
            long[] keys = {9, 12, 12, 12};
            for (int k = 0; k < 4; k++) {
                CHECK.due("taken item", items[k], x.taken(bits, k, 0));
                CHECK.due("taken key", keys[k], x.taken(bits, k, 1));
            }
        }
        CHECK.throwing("k 4", Check.ELEMENT, () -> x.taken(1, 4, 0));
        CHECK.throwing("k -1", Check.ELEMENT, () -> x.taken(1, -1, 0));
        CHECK.throwing("bits 0 and k 4", Check.ARGUMENT, () -> x.taken(0, 4, 0));
        CHECK.throwing("bits 5", Check.ARGUMENT, () -> x.taken(5, 0, 0));
        CHECK.throwing("what 2 and k 4", Check.ARGUMENT, () -> x.taken(1, 4, 2));
        CHECK.throwing("what -1", Check.ARGUMENT, () -> x.taken(1, 0, -1));
        CHECK.due("arguments", 4, x.status(1));
        CHECK.due("elements", 2, x.status(3));
        CHECK.throwing("no plan", Check.ELEMENT, () -> new DueQueue().taken(1, 0, 0));
    }

    private static void fewestMoves() {
        CHECK.due("no plan", 1, new DueQueue().fewest());
        CHECK.due("all alike", 1, with("push 1;pop;").fewest());
        // 12, 9, 13, 3 as above: 6 moves by 1 bit, 4 by 2, and by 3: 12 = 14, 9 = 11, 13 = 15
        // share their bucket: 1 + 3 + 1; by 4 bits 3.
        DueQueue x = with("push 12;push 9;push 13;push 3;pop;pop;pop;");
        CHECK.due("by 3 bits", 5, x.run(3, 4));
        CHECK.due("4 bits", 4, x.fewest());
        // 1 and 2: by 1 bit their buckets are 1 and 2, by 2 bits 1 and 2; 2 and 3 share bucket 2 by
        // 1 bit: one move more.
        CHECK.due("of several the fewest bits", 2, with("push 2;push 3;pop;pop;").fewest());
    }

    private static void wrongNumbers() {
        DueQueue x = with("push 1;");
        CHECK.throwing("bits 0", Check.ARGUMENT, () -> x.run(0, 0));
        CHECK.throwing("bits 5", Check.ARGUMENT, () -> x.run(5, 0));
        CHECK.throwing("what 8", Check.ARGUMENT, () -> x.run(1, 8));
        CHECK.throwing("what -1", Check.ARGUMENT, () -> x.run(1, -1));
        CHECK.due("counted", 4, x.status(1));
    }

    private static void nothingStays() {
        DueQueue x = with("push 9;pop;again 20[push 11;];");
        x.push(0, 4);
        x.push(0, 6);
        long before = x.print();
        x.run(4, 4);
        x.taken(3, 0, 1);
        x.fewest();
        x.order(0, 1);
        CHECK.due("the queues stay", before, x.print());
        CHECK.due("DIGITS stay", 1, x.told(0));
        CHECK.due("ACTS stay", 2, x.told(6));
        CHECK.due("the same once more", 1, x.run(1, 4));
    }
}
