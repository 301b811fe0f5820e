import java.util.function.Supplier;

/**
 * "Asked, nothing stays changed. Of several exceptions of one call the one told first is thrown; a
 * call that throws changes nothing but status()." Of each call every reason, at the bound itself and
 * beside it, and every pair of reasons that can come together.
 */
public final class RefusalTest {
    private static final Check CHECK = new Check();
    private static final Look LOOK = new Look(CHECK);
    private static final long TOP = 1_099_511_627_775L;
    private static final int[] NO_QUEUES = {Integer.MIN_VALUE, -1, 2, Integer.MAX_VALUE};
    private static final int[] NO_BITS = {Integer.MIN_VALUE, -1, 0, 5, Integer.MAX_VALUE};
    private static final int[] NO_NODES = {Integer.MIN_VALUE, -1, 16, Integer.MAX_VALUE};
    private static final long[] NO_KEYS = {Long.MIN_VALUE, -1, TOP + 1, Long.MAX_VALUE};

    public static void main(String[] args) {
        noSuchQueue();
        noSuchKey();
        noSuchDigits();
        noSuchWhat();
        noSuchNode();
        noSuchItem();
        notSoMany();
        textLengths();
        pushIsRefused();
        popIsRefused();
        lessenIsRefused();
        dropIsRefused();
        pourIsRefused();
        digitsAreRefused();
        theOneToldFirst();
        askedNothingStaysChanged();
        eachReasonIsCounted();
        CHECK.end("RefusalTest");
    }

    /**
     * Queue 0: LAST 3; item 0 (12) and item 1 (9) wait, item 2 (3) was taken, item 3 (40) dropped.
     * Queue 1: LAST 0; item 0 (7) and item 1 (8) wait. Twenty bytes are on the tape.
     */
    private static DueQueue used() {
        DueQueue x = new DueQueue();
        Check.plan(x, "push 5;push 3;pop;push 4;");
        Check.chart(x, "edge 0 1 9;edge 0 2 2;edge 2 1 6;event A 5;rule A 4 B;");
        x.digits(2);
        x.push(0, 12);
        x.push(0, 9);
        x.push(0, 3);
        x.push(0, 40);
        x.pop(0);
        x.drop(0, 3);
        x.push(1, 7);
        x.push(1, 8);
        Check.feedText(x, "push 77;pop;push 99;");
        return x;
    }

    private static DueQueue full() {
        DueQueue x = new DueQueue();
        for (int i = 0; i < 200; i++) {
            x.push(0, 5);
        }
        x.pop(0);
        x.push(1, 6);
        return x;
    }

    // ---- IndexOutOfBoundsException: no such QUEUE

    private static void noSuchQueue() {
        for (int q : NO_QUEUES) {
            noQueue("push " + q, x -> x.push(q, 12));
            noQueue("pop " + q, x -> x.pop(q));
            noQueue("lessen " + q, x -> x.lessen(q, 0, 7));
            noQueue("drop " + q, x -> x.drop(q, 0));
            noQueue("pour " + q, x -> x.pour(q));
            noQueue("clear " + q, x -> x.clear(q));
            noQueue("queue " + q, x -> x.queue(q, 0));
            noQueue("item " + q, x -> x.item(q, 0, 0));
            noQueue("bucket " + q, x -> x.bucket(q, 0));
            noQueue("order " + q, x -> x.order(q, 0));
        }
        for (int queue = 0; queue <= 1; queue++) {
            int q = queue;
            LOOK.answers("push " + q, RefusalTest::used, q == 0 ? 4 : 2, x -> x.push(q, 12));
            LOOK.answers("pop " + q, RefusalTest::used, q == 0 ? 1 : 0, x -> x.pop(q));
            // By 2 bits, LAST 3 and 0: 7 differs in place 1, its digit there is 1.
            LOOK.answers("lessen " + q, RefusalTest::used, 4, x -> x.lessen(q, 0, 7));
            LOOK.answers("drop " + q, RefusalTest::used, 1, x -> x.drop(q, 0));
            LOOK.answers("pour " + q, RefusalTest::used, 2, x -> x.pour(q));
            LOOK.answers("clear " + q, RefusalTest::used, 2, x -> x.clear(q));
            LOOK.answers("queue " + q, RefusalTest::used, 2, x -> x.queue(q, 1));
            LOOK.answers("item " + q, RefusalTest::used, q == 0 ? 12 : 7, x -> x.item(q, 0, 0));
            LOOK.answers("bucket " + q, RefusalTest::used, 1, x -> x.bucket(q, 5));
            LOOK.answers("order " + q, RefusalTest::used, q == 0 ? 0 : 1, x -> x.order(q, 1));
        }
    }

    private static void noQueue(String what, Look.Use call) {
        LOOK.refused("no such QUEUE: " + what, RefusalTest::used, Check.INDEX, call);
    }

    // ---- IllegalArgumentException: another number

    private static void noSuchKey() {
        for (long key : NO_KEYS) {
            wrong("push of " + key, x -> x.push(0, key));
            wrong("push of " + key + " to queue 1", x -> x.push(1, key));
            wrong("lessen to " + key, x -> x.lessen(0, 0, key));
            wrong("replay till " + key, x -> x.replay(1, key, 0));
            wrong("happened till " + key, x -> x.happened(1, key, 0, 0));
        }
        LOOK.answers("push of 0", DueQueue::new, 0, x -> x.push(0, 0));
        LOOK.answers("push of the top KEY", RefusalTest::used, 4, x -> x.push(0, TOP));
        LOOK.answers("lessen to 0", RefusalTest::used, 0, x -> x.lessen(1, 0, 0));
        LOOK.answers("lessen to the top KEY", RefusalTest::withTopKey, 60, x -> x.lessen(0, 4, TOP));
        LOOK.answers("replay till 0", RefusalTest::used, 0, x -> x.replay(1, 0, 0));
        LOOK.answers("replay till the top", RefusalTest::used, 2, x -> x.replay(1, TOP, 0));
        LOOK.answers("happened till the top", RefusalTest::used, 9, x -> x.happened(1, TOP, 1, 1));
    }

    private static DueQueue withTopKey() {
        DueQueue x = used();
        x.push(0, TOP);
        return x;
    }

    private static void noSuchDigits() {
        for (int b : NO_BITS) {
            wrong("digits of " + b, RefusalTest::idle, x -> x.digits(b));
            wrong("run by " + b, x -> x.run(b, 0));
            wrong("taken by " + b, x -> x.taken(b, 0, 0));
            wrong("way by " + b, x -> x.way(b, 0, 1, 0));
            wrong("ways by " + b, x -> x.ways(b, 0, 0));
            wrong("nodes by " + b, x -> x.nodes(b, 0, 1));
            wrong("replay by " + b, x -> x.replay(b, 9, 0));
            wrong("happened by " + b, x -> x.happened(b, 9, 0, 0));
        }
        for (int bits = 1; bits <= 4; bits++) {
            int b = bits;
            LOOK.answers("digits of " + b, RefusalTest::idle, 3, x -> x.digits(b));
            LOOK.answers("told by " + b, RefusalTest::idle, b, x -> x.digits(b) * 0 + x.told(0));
            LOOK.answers("run by " + b, RefusalTest::used, 4, x -> x.run(b, 0));
            LOOK.answers("taken by " + b, RefusalTest::used, 3, x -> x.taken(b, 0, 1));
            LOOK.answers("way by " + b, RefusalTest::used, 8, x -> x.way(b, 0, 1, 0));
            LOOK.answers("ways by " + b, RefusalTest::used, 3, x -> x.ways(b, 0, 0));
            LOOK.answers("nodes by " + b, RefusalTest::used, 7, x -> x.nodes(b, 0, 1));
            LOOK.answers("replay by " + b, RefusalTest::used, 2, x -> x.replay(b, 9, 0));
            LOOK.answers("happened by " + b, RefusalTest::used, 1, x -> x.happened(b, 9, 1, 0));
        }
    }

    /** None waits, so that digits() may be called; the DIGITS are of 3 bits. */
    private static DueQueue idle() {
        DueQueue x = new DueQueue();
        x.digits(3);
        x.push(0, 9);
        x.push(1, 9);
        x.pop(0);
        x.drop(1, 0);
        return x;
    }

    private static void noSuchWhat() {
        for (int out : new int[] {Integer.MIN_VALUE, -1, Integer.MAX_VALUE}) {
            wrongWhats(out, out, out, out, out);
        }
        // told and queue have 0 to 6, item and ways 0 to 4, taken and happened 0 and 1.
        wrongWhats(7, 7, 5, 5, 2);
        for (int out : new int[] {Integer.MIN_VALUE, -1, 12, 13, Integer.MAX_VALUE}) {
            wrong("run " + out, x -> x.run(1, out));
            wrong("way " + out, x -> x.way(1, 0, 1, out));
            wrong("replay " + out, x -> x.replay(1, 9, out));
        }
        wrong("run 8", x -> x.run(1, 8));
        wrong("way 6", x -> x.way(1, 0, 1, 6));
        LOOK.answers("told 0", RefusalTest::used, 2, x -> x.told(0));
        LOOK.answers("told 6", RefusalTest::used, 8, x -> x.told(6));
        LOOK.answers("queue 0", RefusalTest::used, 3, x -> x.queue(0, 0));
        LOOK.answers("queue 6", RefusalTest::used, 6 + 5, x -> x.queue(0, 6));
        LOOK.answers("item 0", RefusalTest::used, 40, x -> x.item(0, 3, 0));
        LOOK.answers("item 4", RefusalTest::used, 2, x -> x.item(0, 3, 4));
        LOOK.answers("run 7", RefusalTest::used, 3, x -> x.run(1, 7));
        LOOK.answers("taken 0", RefusalTest::used, 1, x -> x.taken(1, 0, 0));
        LOOK.answers("way 5", RefusalTest::used, 1, x -> x.way(1, 0, 1, 5));
        LOOK.answers("ways 4", RefusalTest::used, 2, x -> x.ways(1, 0, 4));
        LOOK.answers("replay 11", RefusalTest::used, 0, x -> x.replay(1, 9, 11));
        LOOK.answers("replay 4", RefusalTest::used, 1, x -> x.replay(1, 9, 4));
        LOOK.answers("happened 1", RefusalTest::used, 5, x -> x.happened(1, 9, 0, 1));
    }

    private static void wrongWhats(int told, int queue, int item, int ways, int taken) {
        wrong("told " + told, x -> x.told(told));
        wrong("queue " + queue, x -> x.queue(0, queue));
        wrong("queue 1, " + queue, x -> x.queue(1, queue));
        wrong("item " + item, x -> x.item(0, 0, item));
        wrong("ways " + ways, x -> x.ways(1, 0, ways));
        wrong("taken " + taken, x -> x.taken(1, 0, taken));
        wrong("happened " + taken, x -> x.happened(1, 9, 0, taken));
    }

    private static void textLengths() {
        for (int n : new int[] {Integer.MIN_VALUE, -1, 21, 301, 501, Integer.MAX_VALUE}) {
            wrong("plan of " + n + ", 20 on the tape", x -> x.plan(n));
            wrong("chart of " + n + ", 20 on the tape", x -> x.chart(n));
        }
        wrong("plan of 1, none on the tape", DueQueue::new, x -> x.plan(1));
        wrong("chart of 1, none on the tape", DueQueue::new, x -> x.chart(1));
        wrong("plan of 301, 320 on the tape", () -> fed(16), x -> x.plan(301));
        wrong("plan of 320, 320 on the tape", () -> fed(16), x -> x.plan(320));
        wrong("plan of 321, 320 on the tape", () -> fed(16), x -> x.plan(321));
        wrong("chart of 321, 320 on the tape", () -> fed(16), x -> x.chart(321));
        wrong("chart of 501, 500 on the tape", () -> fed(25), x -> x.chart(501));
        LOOK.answers("plan of 20, 20 on the tape", RefusalTest::used, 3, x -> x.plan(20));
        LOOK.answers("plan of 19, 20 on the tape", RefusalTest::used, 1 - 10, x -> x.plan(19));
        LOOK.answers("plan of 0, 20 on the tape", RefusalTest::used, 0, x -> x.plan(0));
        LOOK.answers("plan of 0, none on the tape", DueQueue::new, 0, x -> x.plan(0));
        LOOK.answers("chart of 0, none on the tape", DueQueue::new, 0, x -> x.chart(0));
        LOOK.answers("plan of 300, 320 on the tape", () -> fed(16), 75, x -> x.plan(300));
        LOOK.answers("plan of 300, 300 on the tape", () -> fed(15), 75, x -> x.plan(300));
        LOOK.answers("chart of 301, 320 on the tape", () -> fed(16), 1 - 10, x -> x.chart(301));
        LOOK.answers("chart of 500, 500 on the tape", () -> fed(25), 1 - 10, x -> x.chart(500));
    }

    /** "pop;" five times by each feed(). */
    private static DueQueue fed(int times) {
        DueQueue x = new DueQueue();
        Check.feedText(x, "pop;pop;pop;pop;pop;".repeat(times));
        return x;
    }

    private static void wrong(String what, Look.Use call) {
        wrong(what, RefusalTest::used, call);
    }

    private static void wrong(String what, Supplier<DueQueue> make, Look.Use call) {
        LOOK.refused("another number: " + what, make, Check.ARGUMENT, call);
    }

    // ---- NoSuchElementException

    private static void noSuchNode() {
        for (int node : NO_NODES) {
            missing("way from " + node, x -> x.way(1, node, 1, 0));
            missing("way to " + node, x -> x.way(1, 0, node, 0));
            missing("ways from " + node, x -> x.ways(1, node, 0));
            missing("nodes from " + node, x -> x.nodes(1, node, 1));
            missing("nodes to " + node, x -> x.nodes(1, 0, node));
        }
        LOOK.answers("way from 0 to 15", RefusalTest::used, -1, x -> x.way(1, 0, 15, 0));
        LOOK.answers("way from 15 to 0", RefusalTest::used, -1, x -> x.way(1, 15, 0, 0));
        LOOK.answers("ways from 15", RefusalTest::used, 1, x -> x.ways(1, 15, 0));
        LOOK.answers("nodes from 15 to 15", RefusalTest::used, 1 << 15, x -> x.nodes(1, 15, 15));
        LOOK.answers("nodes from 0 to 0", RefusalTest::used, 1, x -> x.nodes(1, 0, 0));
    }

    private static void noSuchItem() {
        for (int item : new int[] {Integer.MIN_VALUE, -1, 4, 200, Integer.MAX_VALUE}) {
            missing("lessen of " + item, x -> x.lessen(0, item, 7));
            missing("drop of " + item, x -> x.drop(0, item));
            missing("item " + item, x -> x.item(0, item, 0));
        }
        for (int item : new int[] {-1, 200, 201}) {
            missing("lessen of " + item + " of 200", RefusalTest::full, x -> x.lessen(0, item, 5));
            missing("drop of " + item + " of 200", RefusalTest::full, x -> x.drop(0, item));
            missing("item " + item + " of 200", RefusalTest::full, x -> x.item(0, item, 0));
        }
        // Each QUEUE has ITEMS of its own: 2 and 3 came to queue 0 alone.
        missing("lessen of another QUEUE's ITEM", x -> x.lessen(1, 2, 7));
        missing("drop of another QUEUE's ITEM", x -> x.drop(1, 2));
        missing("item of another QUEUE", x -> x.item(1, 2, 0));
        missing("lessen, none came", DueQueue::new, x -> x.lessen(0, 0, 0));
        missing("drop, none came", DueQueue::new, x -> x.drop(0, 0));
        missing("item, none came", DueQueue::new, x -> x.item(0, 0, 0));
        LOOK.answers("the ITEM that came last", RefusalTest::used, 40, x -> x.item(0, 3, 0));
        LOOK.answers("lessen of ITEM 199", RefusalTest::full, 0, x -> x.lessen(0, 199, 5));
        LOOK.answers("drop of ITEM 199", RefusalTest::full, 198, x -> x.drop(0, 199));
        LOOK.answers("ITEM 199", RefusalTest::full, 198, x -> x.item(0, 199, 2));
        LOOK.answers("an ITEM that was taken did come", RefusalTest::used, 3, x -> x.item(0, 2, 0));
    }

    private static void notSoMany() {
        for (int k : new int[] {Integer.MIN_VALUE, -1, 2, Integer.MAX_VALUE}) {
            missing("order " + k + " of 2", x -> x.order(0, k));
            missing("happened " + k + " of 2", x -> x.happened(1, 9, k, 0));
        }
        for (int k : new int[] {Integer.MIN_VALUE, -1, 1, Integer.MAX_VALUE}) {
            missing("taken " + k + " of 1", x -> x.taken(1, k, 0));
        }
        missing("order 0 of none", DueQueue::new, x -> x.order(0, 0));
        missing("order 199 of 199", RefusalTest::full, x -> x.order(0, 199));
        missing("taken 0 without a PLAN", DueQueue::new, x -> x.taken(1, 0, 0));
        missing("happened 0 without a CHART", DueQueue::new, x -> x.happened(1, 9, 0, 0));
        missing("happened 0 ahead of the first", x -> x.happened(1, 4, 0, 0));
        missing("happened 1 ahead of the second", x -> x.happened(1, 8, 1, 0));
        LOOK.answers("order 0", RefusalTest::used, 1, x -> x.order(0, 0));
        LOOK.answers("order 1 of 2", RefusalTest::used, 0, x -> x.order(0, 1));
        LOOK.answers("order 198 of 199", RefusalTest::full, 199, x -> x.order(0, 198));
        LOOK.answers("taken 0 of 1", RefusalTest::used, 1, x -> x.taken(1, 0, 0));
        LOOK.answers("happened 0 of 2", RefusalTest::used, 0, x -> x.happened(1, 9, 0, 0));
        LOOK.answers("happened 1 of 2", RefusalTest::used, 1, x -> x.happened(1, 9, 1, 0));
    }

    private static void missing(String what, Look.Use call) {
        missing(what, RefusalTest::used, call);
    }

    private static void missing(String what, Supplier<DueQueue> make, Look.Use call) {
        LOOK.refused("no such one: " + what, make, Check.ELEMENT, call);
    }

    // ---- IllegalStateException: REFUSED

    private static void notNow(String what, Supplier<DueQueue> make, Look.Use call) {
        LOOK.refused("REFUSED: " + what, make, Check.STATE, call);
    }

    private static void pushIsRefused() {
        notNow("push just below LAST", RefusalTest::used, x -> x.push(0, 2));
        notNow("push of 0 below LAST", RefusalTest::used, x -> x.push(0, 0));
        LOOK.answers("push at LAST", RefusalTest::used, 4, x -> x.push(0, 3));
        LOOK.answers("push of 0 where LAST is 0", RefusalTest::used, 2, x -> x.push(1, 0));
        notNow("push just below the top LAST", () -> lastOf(TOP), x -> x.push(0, TOP - 1));
        LOOK.answers("push at the top LAST", () -> lastOf(TOP), 1, x -> x.push(0, TOP));
        notNow("push of the 201st", RefusalTest::full, x -> x.push(0, 5));
        notNow("push of the 201st, none waits", RefusalTest::fullAndDone, x -> x.push(0, 5));
        LOOK.answers("push of the 200th", () -> came(199), 199, x -> x.push(0, 5));
        LOOK.answers("push to the other QUEUE", RefusalTest::full, 1, x -> x.push(1, 5));
    }

    private static DueQueue lastOf(long key) {
        DueQueue x = new DueQueue();
        x.push(0, key);
        x.pop(0);
        return x;
    }

    private static DueQueue came(int items) {
        DueQueue x = new DueQueue();
        for (int i = 0; i < items; i++) {
            x.push(0, 5);
        }
        return x;
    }

    /** 200 came, and none of them waits: all were poured away. */
    private static DueQueue fullAndDone() {
        DueQueue x = came(200);
        x.pour(1);
        return x;
    }

    private static void popIsRefused() {
        notNow("pop of a new QUEUE", DueQueue::new, x -> x.pop(0));
        notNow("pop of the other new QUEUE", DueQueue::new, x -> x.pop(1));
        notNow("pop, the only one was taken", () -> lastOf(9), x -> x.pop(0));
        notNow("pop, the only one was dropped", RefusalTest::idle, x -> x.pop(1));
        notNow("pop, all were poured away", RefusalTest::poured, x -> x.pop(1));
        LOOK.answers("pop of the only one", () -> came(1), 0, x -> x.pop(0));
    }

    /** All of queue 1 were poured into queue 0. */
    private static DueQueue poured() {
        DueQueue x = used();
        x.pour(0);
        return x;
    }

    private static void lessenIsRefused() {
        notNow("lessen to one more", RefusalTest::used, x -> x.lessen(0, 0, 13));
        notNow("lessen to the top KEY", RefusalTest::used, x -> x.lessen(0, 0, TOP));
        notNow("lessen to one below LAST", RefusalTest::used, x -> x.lessen(0, 0, 2));
        notNow("lessen to 0 below LAST", RefusalTest::used, x -> x.lessen(0, 0, 0));
        notNow("lessen of one that was taken", RefusalTest::used, x -> x.lessen(0, 2, 3));
        notNow("lessen of one that was dropped", RefusalTest::used, x -> x.lessen(0, 3, 40));
        notNow("lessen of one that was poured away", RefusalTest::poured, x -> x.lessen(1, 0, 7));
        LOOK.answers("lessen to its own KEY", RefusalTest::used, 6, x -> x.lessen(0, 0, 12));
        LOOK.answers("lessen to one less", RefusalTest::used, 5, x -> x.lessen(0, 0, 11));
        LOOK.answers("lessen to one above LAST", RefusalTest::used, 4, x -> x.lessen(0, 0, 4));
        LOOK.answers("lessen to LAST", RefusalTest::used, 0, x -> x.lessen(0, 0, 3));
    }

    private static void dropIsRefused() {
        notNow("drop of one that was taken", RefusalTest::used, x -> x.drop(0, 2));
        notNow("drop of one that was dropped", RefusalTest::used, x -> x.drop(0, 3));
        notNow("drop of one that was poured away", RefusalTest::poured, x -> x.drop(1, 1));
        LOOK.answers("drop of one that waits", RefusalTest::used, 1, x -> x.drop(0, 1));
        LOOK.answers("drop of the only one", () -> came(1), 0, x -> x.drop(0, 0));
    }

    private static void pourIsRefused() {
        notNow("pour of a KEY just below LAST", () -> pouring(9), x -> x.pour(1));
        LOOK.answers("pour of a KEY at LAST", () -> pouring(8), 3, x -> x.pour(1));
        notNow("pour of one into 200", RefusalTest::full, x -> x.pour(0));
        LOOK.answers("pour of none into 200", RefusalTest::fullAlone, 0, x -> x.pour(0));
        LOOK.answers("pour of one into 199", () -> oneBeside(199), 1, x -> x.pour(0));
        notNow("pour of one into 200 that wait", () -> oneBeside(200), x -> x.pour(0));
        LOOK.answers("pour of 200 into none", () -> came(200), 200, x -> x.pour(1));
        notNow("pour of 200 into one that was dropped", RefusalTest::droppedBeside, x -> x.pour(1));
        LOOK.answers("pour of none that wait, LAST being lower", () -> lastOf(9), 0, x -> x.pour(0));
        LOOK.answers("pour of none that wait, LAST being higher", () -> lastOf(9), 0, x -> x.pour(1));
    }

    /** Queue 0: 13, 8, 12 in one BUCKET, so the least is not the first; LAST of queue 1 as told. */
    private static DueQueue pouring(long last) {
        DueQueue x = new DueQueue();
        x.push(0, 13);
        x.push(0, 8);
        x.push(0, 12);
        x.push(1, last);
        x.pop(1);
        return x;
    }

    private static DueQueue fullAlone() {
        DueQueue x = full();
        x.pop(1);
        return x;
    }

    private static DueQueue oneBeside(int items) {
        DueQueue x = came(items);
        x.push(1, 6);
        return x;
    }

    private static DueQueue droppedBeside() {
        DueQueue x = came(200);
        x.push(1, 0);
        x.drop(1, 0);
        return x;
    }

    private static void digitsAreRefused() {
        notNow("digits, one waits in queue 0", () -> came(1), x -> x.digits(2));
        notNow("digits as they are, one waits", () -> came(1), x -> x.digits(1));
        notNow("digits, one waits in queue 1", RefusalTest::otherWaits, x -> x.digits(2));
        LOOK.answers("digits, none waits", () -> lastOf(9), 1, x -> x.digits(2));
        LOOK.answers("digits, the one was cleared away", () -> came(1), 1, x -> x.clear(0) * 0 + x.digits(2));
    }

    private static DueQueue otherWaits() {
        DueQueue x = lastOf(9);
        x.push(1, 0);
        return x;
    }

    // ---- "Of several exceptions of one call the one told first is thrown"

    private static void theOneToldFirst() {
        first("push: QUEUE, KEY", Check.INDEX, RefusalTest::used, x -> x.push(2, -1));
        first("push: KEY, below LAST", Check.ARGUMENT, RefusalTest::used, x -> x.push(0, -1));
        first("push: KEY, 200 came", Check.ARGUMENT, RefusalTest::full, x -> x.push(0, TOP + 1));
        first("lessen: QUEUE, ITEM", Check.INDEX, RefusalTest::used, x -> x.lessen(2, 4, 7));
        first("lessen: QUEUE, KEY", Check.INDEX, RefusalTest::used, x -> x.lessen(-1, 0, -1));
        first("lessen: all", Check.INDEX, RefusalTest::used, x -> x.lessen(-1, -1, -1));
        first("lessen: ITEM, KEY", Check.ELEMENT, RefusalTest::used, x -> x.lessen(0, 4, TOP + 1));
        first("lessen: ITEM, below LAST", Check.ELEMENT, RefusalTest::used, x -> x.lessen(0, 4, 2));
        first("lessen: KEY, taken", Check.ARGUMENT, RefusalTest::used, x -> x.lessen(0, 2, -1));
        first("lessen: KEY, greater", Check.ARGUMENT, RefusalTest::used, x -> x.lessen(0, 0, TOP + 1));
        first("drop: QUEUE, ITEM", Check.INDEX, RefusalTest::used, x -> x.drop(2, 4));
        first("digits: bits, one waits", Check.ARGUMENT, RefusalTest::used, x -> x.digits(5));
        first("digits: no bits, one waits", Check.ARGUMENT, RefusalTest::used, x -> x.digits(0));
        first("queue: QUEUE, what", Check.INDEX, RefusalTest::used, x -> x.queue(2, 7));
        first("item: QUEUE, ITEM", Check.INDEX, RefusalTest::used, x -> x.item(2, 4, 0));
        first("item: QUEUE, what", Check.INDEX, RefusalTest::used, x -> x.item(2, 0, 5));
        first("item: ITEM, what", Check.ELEMENT, RefusalTest::used, x -> x.item(0, 4, 5));
        first("order: QUEUE, k", Check.INDEX, RefusalTest::used, x -> x.order(2, 2));
        first("taken: bits, k", Check.ARGUMENT, RefusalTest::used, x -> x.taken(5, 1, 0));
        first("taken: what, k", Check.ARGUMENT, RefusalTest::used, x -> x.taken(1, 1, 2));
        first("way: bits, from", Check.ARGUMENT, RefusalTest::used, x -> x.way(5, 16, 1, 0));
        first("way: bits, to", Check.ARGUMENT, RefusalTest::used, x -> x.way(0, 0, 16, 0));
        first("way: what, from", Check.ARGUMENT, RefusalTest::used, x -> x.way(1, -1, 1, 6));
        first("way: what, to", Check.ARGUMENT, RefusalTest::used, x -> x.way(1, 0, -1, -1));
        first("ways: bits, from", Check.ARGUMENT, RefusalTest::used, x -> x.ways(5, 16, 0));
        first("ways: what, from", Check.ARGUMENT, RefusalTest::used, x -> x.ways(1, 16, 5));
        first("nodes: bits, from", Check.ARGUMENT, RefusalTest::used, x -> x.nodes(5, 16, 0));
        first("nodes: bits, to", Check.ARGUMENT, RefusalTest::used, x -> x.nodes(0, 0, 16));
        first("happened: bits, k", Check.ARGUMENT, RefusalTest::used, x -> x.happened(5, 9, 2, 0));
        first("happened: till, k", Check.ARGUMENT, RefusalTest::used, x -> x.happened(1, TOP + 1, 2, 0));
        first("happened: what, k", Check.ARGUMENT, RefusalTest::used, x -> x.happened(1, 9, 2, 2));
    }

    private static void first(String what, String exception, Supplier<DueQueue> make, Look.Use call) {
        LOOK.refused("told first of " + what, make, exception, call);
    }

    // ---- "Asked, nothing stays changed"

    private static void askedNothingStaysChanged() {
        for (int what = 0; what <= 6; what++) {
            int w = what;
            long[] told = {2, 4, 3, 1, 1, 20, 8};
            long[] queue = {3, 2, 4, 1, 9, 2, 11};
            LOOK.asked("told " + w, RefusalTest::used, told[w], x -> x.told(w));
            LOOK.asked("queue " + w, RefusalTest::used, queue[w], x -> x.queue(0, w));
        }
        LOOK.asked("fault", RefusalTest::used, -1, x -> x.fault());
        LOOK.asked("item", RefusalTest::used, 5, x -> x.item(0, 1, 1));
        LOOK.asked("item's place", RefusalTest::used, 0, x -> x.item(0, 1, 2));
        LOOK.asked("bucket", RefusalTest::used, 1, x -> x.bucket(0, 5));
        LOOK.asked("order", RefusalTest::used, 0, x -> x.order(0, 1));
        LOOK.asked("run", RefusalTest::used, 2, x -> x.run(4, 3));
        LOOK.asked("taken", RefusalTest::used, 3, x -> x.taken(4, 0, 1));
        LOOK.asked("fewest", RefusalTest::used, 1, x -> x.fewest());
        LOOK.asked("way", RefusalTest::used, 8, x -> x.way(4, 0, 1, 0));
        LOOK.asked("ways", RefusalTest::used, 3, x -> x.ways(4, 0, 0));
        LOOK.asked("nodes", RefusalTest::used, 7, x -> x.nodes(4, 0, 1));
        LOOK.asked("replay", RefusalTest::used, 2, x -> x.replay(4, 9, 0));
        LOOK.asked("happened", RefusalTest::used, 9, x -> x.happened(4, 9, 1, 1));
        LOOK.asked("status", RefusalTest::used, 0, x -> x.status(0));
        LOOK.asked("no status", RefusalTest::used, -1, x -> x.status(4));
        DueQueue x = used();
        CHECK.due("print twice", x.print(), x.print());
    }

    // ---- status()

    private static void eachReasonIsCounted() {
        DueQueue x = new DueQueue();
        // 511 refusals and a status(): the 512 calls for which an object is promised to stand.
        for (int i = 0; i < 511; i++) {
            CHECK.throwing("pop", Check.STATE, () -> x.pop(0));
        }
        CHECK.due("511 were refused", 511, x.status(2));
        DueQueue y = new DueQueue();
        for (int what : new int[] {Integer.MIN_VALUE, -1, 4, Integer.MAX_VALUE}) {
            CHECK.due("status " + what, DueQueue.NONE, y.status(what));
        }
        for (int reason = 0; reason <= 3; reason++) {
            CHECK.due("a status for others is none of " + reason, 0, y.status(reason));
        }
        y.undo();
        y.feed(0, 0, 0, 0, 0);
        y.plan(20);
        for (int reason = 0; reason <= 3; reason++) {
            CHECK.due("NONE and a FAULT are none of " + reason, 0, y.status(reason));
        }
    }
}
