import java.util.ArrayList;
import java.util.List;

/** Promises 1, 6 to 18, 27 and 28: the queues that are used by hand. */
public final class HandTest {
    private static final Check CHECK = new Check();
    private static final long TOP = 1_099_511_627_775L;

    public static void main(String[] args) {
        newObject();
        pushFindsBuckets();
        pushRefuses();
        popDealsOut();
        popIsFirstComeFirst();
        popRefuses();
        lessenMoves();
        lessenRefuses();
        dropTakesOut();
        pourCarriesOver();
        pourRefuses();
        digitsChange();
        clearEmpties();
        undoTakesBack();
        undoKeepsEight();
        undoOfEachAct();
        undoOfALongRun();
        queueTells();
        itemTells();
        bucketCounts();
        orderForesees();
        printMixes();
        statusCounts();
        CHECK.end("HandTest");
    }

    private static DueQueue with(long... keys) {
        DueQueue x = new DueQueue();
        for (long key : keys) {
            x.push(0, key);
        }
        return x;
    }

    private static String seen(DueQueue x) {
        List<String> all = new ArrayList<>();
        all.add(Long.toString(x.fault()));
        for (int what = 0; what <= 6; what++) {
            all.add(Long.toString(x.told(what)));
        }
        return all + seenQueues(x);
    }

    /** All that can be asked of the queues, one answer behind the other. */
    private static String seenQueues(DueQueue x) {
        List<String> all = new ArrayList<>();
        all.add(Long.toString(x.print()));
        all.add(Long.toString(x.told(0)));
        for (int queue = 0; queue <= 1; queue++) {
            for (int what = 0; what <= 6; what++) {
                all.add(Long.toString(x.queue(queue, what)));
            }
            for (int item = 0; item < x.queue(queue, 2); item++) {
                for (int what = 0; what <= 4; what++) {
                    all.add(Long.toString(x.item(queue, item, what)));
                }
            }
            for (int k = 0; k < x.queue(queue, 1); k++) {
                all.add(Long.toString(x.order(queue, k)));
            }
        }
        return all.toString();
    }

    /** A look of few calls, as an object has no more than 512; RefusalTest looks at all. */
    private static String glance(DueQueue x) {
        List<Long> all = new ArrayList<>();
        all.add(x.print());
        all.add((long) x.told(6));
        for (int queue = 0; queue <= 1; queue++) {
            all.add(x.queue(queue, 1));
            all.add(x.queue(queue, 6));
        }
        return all.toString();
    }

    /** The call throws this very exception, and nothing but status() is changed by it. */
    private static void refused(String what, DueQueue x, String exception, Check.Call call) {
        String[] names = {Check.INDEX, Check.ARGUMENT, Check.STATE, Check.ELEMENT};
        String before = glance(x);
        int[] counts = {x.status(0), x.status(1), x.status(2), x.status(3)};
        CHECK.throwing(what, exception, call);
        CHECK.same(what + " changes nothing", before, glance(x));
        for (int i = 0; i < 4; i++) {
            CHECK.due(what + ", status(" + i + ")", counts[i] + (names[i].equals(exception) ? 1 : 0),
                    x.status(i));
        }
    }

    private static void newObject() {
        DueQueue x = new DueQueue();
        CHECK.due("NONE", -1, DueQueue.NONE);
        CHECK.due("new: digits", 1, x.told(0));
        for (int what = 1; what <= 6; what++) {
            CHECK.due("new: told " + what, 0, x.told(what));
        }
        for (int queue = 0; queue <= 1; queue++) {
            for (int what = 0; what <= 6; what++) {
                CHECK.due("new: queue " + what, what == 4 ? -1 : 0, x.queue(queue, what));
            }
        }
        CHECK.due("new: fault", -1, x.fault());
        CHECK.due("new: undo", -1, x.undo());
        CHECK.due("new: print", 0, x.print());
        CHECK.due("new: no plan", 0, x.run(1, 0));
        CHECK.due("new: no chart", 1, x.ways(1, 0, 0));
    }

    private static void pushFindsBuckets() {
        DueQueue x = new DueQueue();
        CHECK.due("push is item 0", 0, x.push(0, 0));
        CHECK.due("push is item 1", 1, x.push(0, TOP));
        CHECK.due("the other queue has its own numbers", 0, x.push(1, 7));
        CHECK.due("key 0 is LAST: bucket 0", 0, x.item(0, 0, 1));
        CHECK.due("highest of 40 bits: bucket 40", 40, x.item(0, 1, 1));
        CHECK.due("7 by bits: bucket 3", 3, x.item(1, 0, 1));
        int[] topBuckets = {40, 1 + 19 * 3 + 2, 1 + 13 * 7 + 0, 1 + 9 * 15 + 14};
        int[] hundred = {7, 3 * 3 + 1, 2 * 7 + 1, 15 + 6};
        for (int bits = 1; bits <= 4; bits++) {
            DueQueue y = new DueQueue();
            y.digits(bits);
            y.push(0, TOP);
            y.push(0, 100);
            CHECK.due("the top key by bits " + bits, topBuckets[bits - 1], y.item(0, 0, 1));
            CHECK.due("100 by bits " + bits, hundred[bits - 1], y.item(0, 1, 1));
        }
    }

    private static void pushRefuses() {
        DueQueue x = with(5, 5);
        refused("push: no such queue", x, Check.INDEX, () -> x.push(2, 5));
        refused("push: queue -1, and no key", x, Check.INDEX, () -> x.push(-1, -5));
        refused("push: key -1", x, Check.ARGUMENT, () -> x.push(0, -1));
        refused("push: key above 40 bits", x, Check.ARGUMENT, () -> x.push(0, TOP + 1));
        refused("push: least long", x, Check.ARGUMENT, () -> x.push(0, Long.MIN_VALUE));
        x.pop(0);
        refused("push: below LAST", x, Check.STATE, () -> x.push(0, 4));
        CHECK.due("push: at LAST", 2, x.push(0, 5));
        for (int i = 3; i < 200; i++) {
            CHECK.due("push " + i, i, x.push(0, 5 + i));
        }
        refused("push: 200 came", x, Check.STATE, () -> x.push(0, 500));
        refused("push: 200 came, no key", x, Check.ARGUMENT, () -> x.push(0, -1));
        x.pop(0);
        refused("push: 200 came, fewer wait", x, Check.STATE, () -> x.push(0, 500));
        CHECK.due("push: the other queue has room", 0, x.push(1, 1));
    }

    private static void popDealsOut() {
        // 12 = 1100, 9 = 1001, 13 = 1101, 9: all in bucket 4; LAST becomes 9.
        DueQueue x = with(12, 9, 13, 9, 20);
        CHECK.due("four in bucket 4", 4, x.bucket(0, 4));
        CHECK.due("first of the least key", 1, x.pop(0));
        CHECK.due("LAST", 9, x.queue(0, 0));
        CHECK.due("12 against 9: bucket 3", 3, x.item(0, 0, 1));
        CHECK.due("13 against 9: bucket 3", 3, x.item(0, 2, 1));
        CHECK.due("13 behind 12", 1, x.item(0, 2, 2));
        CHECK.due("the other 9: bucket 0", 0, x.item(0, 3, 1));
        CHECK.due("20 stays in bucket 5", 5, x.item(0, 4, 1));
        CHECK.due("20 was not moved", 0, x.item(0, 4, 3));
        for (int item = 0; item < 4; item++) {
            CHECK.due("moved once: " + item, 1, x.item(0, item, 3));
        }
        CHECK.due("bucket 0 without dealing", 3, x.pop(0));
        CHECK.due("no move by that", 4, x.queue(0, 3));
        CHECK.due("12", 0, x.pop(0));
        CHECK.due("LAST 12", 12, x.queue(0, 0));
        CHECK.due("13 against 12: bucket 1", 1, x.item(0, 2, 1));
        CHECK.due("13", 2, x.pop(0));
        CHECK.due("13 was moved three times", 3, x.item(0, 2, 3));
        CHECK.due("20", 4, x.pop(0));
        CHECK.due("a lone one is moved, too", 1, x.item(0, 4, 3));
    }

    private static void popIsFirstComeFirst() {
        DueQueue x = with(6, 7, 6, 7, 6);
        int[] order = {0, 2, 4, 1, 3};
        for (int item : order) {
            CHECK.due("alike ones as they came", item, x.pop(0));
        }
    }

    private static void popRefuses() {
        DueQueue x = with(3);
        refused("pop: no such queue", x, Check.INDEX, () -> x.pop(2));
        refused("pop: none waits there", x, Check.STATE, () -> x.pop(1));
        CHECK.due("pop", 0, x.pop(0));
        refused("pop: none waits any more", x, Check.STATE, () -> x.pop(0));
    }

    private static void lessenMoves() {
        DueQueue x = with(12, 9, 3);
        CHECK.due("12 to 10: the same bucket", 4, x.lessen(0, 0, 10));
        CHECK.due("it keeps its place", 0, x.item(0, 0, 2));
        CHECK.due("that is no move", 0, x.item(0, 0, 3));
        CHECK.due("its key", 10, x.item(0, 0, 0));
        CHECK.due("10 to 10", 4, x.lessen(0, 0, 10));
        CHECK.due("10 to 2: bucket 2", 2, x.lessen(0, 0, 2));
        CHECK.due("behind the 3 that lay there", 1, x.item(0, 0, 2));
        CHECK.due("that is a move", 1, x.item(0, 0, 3));
        CHECK.due("9 is the first of its bucket now", 0, x.item(0, 1, 2));
        CHECK.due("to LAST: bucket 0", 0, x.lessen(0, 1, 0));
        CHECK.due("it is taken first", 1, x.pop(0));
    }

    private static void lessenRefuses() {
        DueQueue x = with(12, 9, 3, 5);
        x.pop(0);
        x.drop(0, 3);
        refused("lessen: no such queue", x, Check.INDEX, () -> x.lessen(3, 9, -1));
        refused("lessen: never came, no key", x, Check.ELEMENT, () -> x.lessen(0, 4, -1));
        refused("lessen: item -1", x, Check.ELEMENT, () -> x.lessen(0, -1, 5));
        refused("lessen: the other queue's items", x, Check.ELEMENT, () -> x.lessen(1, 0, 5));
        refused("lessen: no key, of a taken one", x, Check.ARGUMENT, () -> x.lessen(0, 2, -1));
        refused("lessen: no key above", x, Check.ARGUMENT, () -> x.lessen(0, 0, TOP + 1));
        refused("lessen: greater", x, Check.STATE, () -> x.lessen(0, 0, 13));
        refused("lessen: below LAST", x, Check.STATE, () -> x.lessen(0, 0, 2));
        refused("lessen: it was taken", x, Check.STATE, () -> x.lessen(0, 2, 3));
        refused("lessen: it was dropped", x, Check.STATE, () -> x.lessen(0, 3, 4));
    }

    private static void dropTakesOut() {
        DueQueue x = with(12, 9, 13);
        CHECK.due("drop: two wait", 2, x.drop(0, 1));
        CHECK.due("13 is second then", 1, x.item(0, 2, 2));
        CHECK.due("LAST stays", 0, x.queue(0, 0));
        CHECK.due("it keeps its key", 9, x.item(0, 1, 0));
        refused("drop: no such queue", x, Check.INDEX, () -> x.drop(-1, 9));
        refused("drop: never came", x, Check.ELEMENT, () -> x.drop(0, 3));
        refused("drop: item -1", x, Check.ELEMENT, () -> x.drop(0, -1));
        refused("drop: twice", x, Check.STATE, () -> x.drop(0, 1));
        x.pop(0);
        refused("drop: it was taken", x, Check.STATE, () -> x.drop(0, 0));
    }

    private static void pourCarriesOver() {
        DueQueue x = with(12, 3, 9, 2);
        x.push(1, 1);
        x.pop(1);
        CHECK.due("pour: four", 4, x.pour(1));
        long[] keys = {3, 2, 12, 9};
        for (int i = 0; i < 4; i++) {
            CHECK.due("bucket by bucket, in order", keys[i], x.item(1, 1 + i, 0));
            CHECK.due("they were not moved", 0, x.item(1, 1 + i, 3));
            CHECK.due("poured away", 2, x.item(0, i, 4));
        }
        CHECK.due("by LAST of this one: 3 against 1", 2, x.item(1, 1, 1));
        CHECK.due("none waits there", 0, x.queue(0, 1));
        CHECK.due("four came there", 4, x.queue(0, 2));
        CHECK.due("nothing to pour", 0, x.pour(1));
        CHECK.due("that is an act, too", 8, x.told(6));
        x.pop(1);
        CHECK.due("LAST stays", 0, x.queue(0, 0));
        CHECK.due("back", 3, x.pour(0));
        CHECK.due("LAST stays there, too", 2, x.queue(1, 0));
        CHECK.due("new numbers", 7, x.queue(0, 2));
    }

    private static void pourRefuses() {
        DueQueue x = with(12, 3);
        refused("pour: no such queue", x, Check.INDEX, () -> x.pour(2));
        x.push(1, 4);
        x.pop(1);
        refused("pour: 3 is below LAST", x, Check.STATE, () -> x.pour(1));
        DueQueue y = with(12, 4);
        y.push(1, 4);
        y.pop(1);
        CHECK.due("pour: 4 is LAST", 2, y.pour(1));
        CHECK.due("it lies in bucket 0", 1, y.bucket(1, 0));
        x.drop(0, 1);
        for (int i = 1; i < 199; i++) {
            x.push(1, 10);
        }
        x.push(0, 12);
        refused("pour: 201 ITEMS", x, Check.STATE, () -> x.pour(1));
        x.drop(0, 2);
        CHECK.due("pour: 200 ITEMS", 1, x.pour(1));
        CHECK.due("200 came", 200, x.queue(1, 2));
        CHECK.due("pour nothing into a full one", 0, x.pour(1));
    }

    private static void digitsChange() {
        DueQueue x = new DueQueue();
        CHECK.due("digits: were 1", 1, x.digits(3));
        CHECK.due("digits: were 3", 3, x.digits(4));
        x.push(1, 100);
        CHECK.due("of both queues", 21, x.item(1, 0, 1));
        refused("digits: 0", x, Check.ARGUMENT, () -> x.digits(0));
        refused("digits: 5", x, Check.ARGUMENT, () -> x.digits(5));
        refused("digits: one waits in queue 1", x, Check.STATE, () -> x.digits(2));
        x.pop(1);
        x.push(0, 1);
        refused("digits: one waits in queue 0", x, Check.STATE, () -> x.digits(2));
        x.drop(0, 0);
        CHECK.due("digits: none waits", 4, x.digits(2));
        CHECK.due("LAST stays", 100, x.queue(1, 0));
        CHECK.due("ITEMS stay", 1, x.queue(1, 2));
    }

    private static void clearEmpties() {
        DueQueue x = new DueQueue();
        x.digits(2);
        x.push(0, 9);
        x.push(0, 8);
        x.push(1, 1);
        x.pop(0);
        CHECK.due("clear: one waited", 1, x.clear(0));
        for (int what = 0; what <= 6; what++) {
            CHECK.due("as at first: " + what, what == 4 ? -1 : 0, x.queue(0, what));
        }
        CHECK.due("the other one stays", 1, x.queue(1, 1));
        CHECK.due("DIGITS stay", 2, x.told(0));
        CHECK.due("numbers from 0 on", 0, x.push(0, 3));
        refused("clear: no such queue", x, Check.INDEX, () -> x.clear(2));
    }

    private static void undoTakesBack() {
        DueQueue x = with(12, 9, 13);
        String three = seen(x);
        x.pop(0);
        CHECK.due("three can be taken back still", 3, x.undo());
        CHECK.same("as it was", three, seen(x));
        CHECK.due("two", 2, x.undo());
        CHECK.due("one", 1, x.undo());
        CHECK.due("none", 0, x.undo());
        CHECK.due("none could", -1, x.undo());
        CHECK.due("empty again", 0, x.queue(0, 2));
        CHECK.throwing("a refused call", Check.STATE, () -> x.pop(0));
        CHECK.due("is no act", 0, x.told(6));
        CHECK.due("and stays counted", 1, x.status(2));
    }

    private static void undoKeepsEight() {
        DueQueue x = with(0, 1, 2, 3, 4, 5, 6, 7, 8, 9);
        CHECK.due("eight of ten", 8, x.told(6));
        for (int left = 7; left >= 0; left--) {
            CHECK.due("undo", left, x.undo());
        }
        CHECK.due("no more", -1, x.undo());
        CHECK.due("two stay", 2, x.queue(0, 2));
        x.push(0, 20);
        CHECK.due("a new act", 1, x.told(6));
        x.undo();
        x.push(0, 21);
        CHECK.due("the new one's key", 21, x.item(0, 2, 0));
        CHECK.due("one again", 0, x.undo());
    }

    private static void undoOfEachAct() {
        takenBack("push", x -> x.push(0, 4));
        takenBack("pop", x -> x.pop(0));
        takenBack("lessen", x -> x.lessen(0, 0, 1));
        takenBack("lessen to nothing else", x -> x.lessen(0, 0, 12));
        takenBack("drop", x -> x.drop(0, 0));
        takenBack("pour", x -> x.pour(0));
        takenBack("pour", x -> x.pour(1));
        takenBack("clear", x -> x.clear(1));
        takenBack("clear, then digits", x -> x.clear(0) + x.clear(1) + x.digits(3));
        takenBack("clear of an empty one", x -> x.clear(0) + x.clear(0));
        takenBack("pour of an empty one", x -> x.pour(0) + x.pour(0));
    }

    /** Each act of the call taken back, all is as it was. */
    private static void takenBack(String what, Look.Use call) {
        DueQueue x = with(12, 9);
        x.push(1, 30);
        String before = seen(x);
        call.on(x);
        int acts = x.told(6) - 3;
        CHECK.due(what + " is an act", 1, acts >= 1 && acts <= 3 ? 1 : 0);
        for (int left = acts - 1; left >= 0; left--) {
            CHECK.due(what + " taken back", 3 + left, x.undo());
        }
        CHECK.same(what + " taken back: all is as before", before, seen(x));
    }

    private static void undoOfALongRun() {
        List<Look.Use> acts = List.of(x -> x.digits(2), x -> x.push(1, 40), x -> x.push(0, 12),
                x -> x.push(0, 9), x -> x.push(1, 8), x -> x.push(0, 33), x -> x.pop(0),
                x -> x.lessen(0, 2, 10), x -> x.drop(0, 0), x -> x.pour(1), x -> x.push(0, 20),
                x -> x.pop(1), x -> x.clear(0), x -> x.pour(0), x -> x.pop(0), x -> x.lessen(0, 1, 39));
        for (int left = 7; left >= 0; left--) {
            DueQueue x = after(acts);
            for (int times = 7; times >= left; times--) {
                CHECK.due("undo of a long run", times, x.undo());
            }
            DueQueue never = after(acts.subList(0, acts.size() - 8 + left));
            CHECK.same("as it was, " + left + " left", seenQueues(never), seenQueues(x));
            if (left == 0) {
                CHECK.due("no more of it", -1, x.undo());
                CHECK.same("and nothing is done", seenQueues(never), seenQueues(x));
            }
        }
    }

    private static DueQueue after(List<Look.Use> acts) {
        DueQueue x = new DueQueue();
        for (Look.Use act : acts) {
            act.on(x);
        }
        return x;
    }

    private static void queueTells() {
        DueQueue x = with(12, 9, 3, 0, 40);
        long[] first = {0, 5, 5, 0, 0, 4, 4 + 4 + 2 + 0 + 6};
        for (int what = 0; what <= 6; what++) {
            CHECK.due("queue " + what, first[what], x.queue(0, what));
        }
        x.pop(0);
        x.drop(0, 2);
        x.pop(0);
        long[] then = {9, 2, 5, 2, 12, 2, 3 + 6};
        for (int what = 0; what <= 6; what++) {
            CHECK.due("queue then " + what, then[what], x.queue(0, what));
        }
        refused("queue: no such queue", x, Check.INDEX, () -> x.queue(2, 9));
        refused("queue: what 7", x, Check.ARGUMENT, () -> x.queue(0, 7));
        refused("queue: what -1", x, Check.ARGUMENT, () -> x.queue(1, -1));
        refused("told: what 7", x, Check.ARGUMENT, () -> x.told(7));
        refused("told: what -1", x, Check.ARGUMENT, () -> x.told(-1));
    }

    private static void itemTells() {
        DueQueue x = with(12, 9, 3, 13);
        x.pop(0);
        x.pop(0);
        x.drop(0, 3);
        x.push(0, 12);
        long[][] due = {{12, 3, 0, 1, 0}, {9, -1, -1, 1, 1}, {3, -1, -1, 1, 1}, {13, -1, -1, 1, 2},
            {12, 3, 1, 0, 0}};
        for (int item = 0; item < due.length; item++) {
            for (int what = 0; what <= 4; what++) {
                CHECK.due("item " + item + ", " + what, due[item][what], x.item(0, item, what));
            }
        }
        refused("item: no such queue", x, Check.INDEX, () -> x.item(2, 9, 9));
        refused("item: never came, no such what", x, Check.ELEMENT, () -> x.item(0, 5, 9));
        refused("item: -1", x, Check.ELEMENT, () -> x.item(0, -1, 0));
        refused("item: what 5", x, Check.ARGUMENT, () -> x.item(0, 0, 5));
        refused("item: what -1", x, Check.ARGUMENT, () -> x.item(0, 0, -1));
    }

    private static void bucketCounts() {
        DueQueue x = with(12, 9, 3, TOP);
        CHECK.due("bucket 4", 2, x.bucket(0, 4));
        CHECK.due("bucket 2", 1, x.bucket(0, 2));
        CHECK.due("bucket 3", 0, x.bucket(0, 3));
        CHECK.due("bucket 40", 1, x.bucket(0, 40));
        x.pop(0);
        x.drop(0, 1);
        CHECK.due("bucket -1, one was taken", 0, x.bucket(0, -1));
        CHECK.due("bucket -2, one was dropped", 0, x.bucket(0, -2));
        CHECK.due("bucket 41", 0, x.bucket(0, 41));
        CHECK.due("greatest int", 0, x.bucket(0, Integer.MAX_VALUE));
        CHECK.due("least int", 0, x.bucket(1, Integer.MIN_VALUE));
        refused("bucket: no such queue", x, Check.INDEX, () -> x.bucket(2, 0));
    }

    private static void orderForesees() {
        DueQueue x = with(12, 9, 3, 9, 12);
        String before = seen(x);
        int[] order = {2, 1, 3, 0, 4};
        for (int k = 0; k < 5; k++) {
            CHECK.due("order " + k, order[k], x.order(0, k));
        }
        CHECK.same("order changes nothing", before, seen(x));
        CHECK.due("order is no act", 5, x.told(6));
        refused("order: no such queue", x, Check.INDEX, () -> x.order(2, 9));
        refused("order: 5 of 5", x, Check.ELEMENT, () -> x.order(0, 5));
        refused("order: -1", x, Check.ELEMENT, () -> x.order(0, -1));
        refused("order: none waits", x, Check.ELEMENT, () -> x.order(1, 0));
        // An item that came to bucket 0 by lessening is behind those that lay there.
        DueQueue y = with(3, 0);
        y.lessen(0, 0, 0);
        CHECK.due("the 0 that came first to its bucket", 1, y.order(0, 0));
        CHECK.due("the lessened one behind it", 0, y.order(0, 1));
    }

    private static void printMixes() {
        DueQueue x = with(5, 3);
        x.push(1, 8);
        x.pop(0);
        // QUEUE 0: LAST 3; item 0: 5, moved 0; item 1: 3, moved 1. QUEUE 1: LAST 0; item 0: 8, 0.
        long[] parts = {3, 5, 0, 3, 1, 0, 8, 0};
        long sum = 0;
        for (long part : parts) {
            sum = 31 * sum + part;
        }
        CHECK.due("print", sum, x.print());
        DueQueue y = new DueQueue();
        for (int i = 0; i < 30; i++) {
            y.push(0, TOP - i);
        }
        long wrapped = 0;
        for (int i = 0; i < 30; i++) {
            wrapped = 31 * (31 * wrapped + TOP - i);
        }
        CHECK.due("print wraps around", 31 * wrapped, y.print());
    }

    private static void statusCounts() {
        DueQueue x = new DueQueue();
        for (int what = 0; what <= 3; what++) {
            CHECK.due("status at first", 0, x.status(what));
        }
        CHECK.due("status -1", -1, x.status(-1));
        CHECK.due("status 4", -1, x.status(4));
        CHECK.due("status of the least int", -1, x.status(Integer.MIN_VALUE));
        for (int i = 0; i < 4; i++) {
            CHECK.throwing("index", Check.INDEX, () -> x.pop(7));
        }
        for (int i = 0; i < 3; i++) {
            CHECK.throwing("argument", Check.ARGUMENT, () -> x.told(7));
        }
        for (int i = 0; i < 2; i++) {
            CHECK.throwing("state", Check.STATE, () -> x.pop(0));
        }
        CHECK.throwing("element", Check.ELEMENT, () -> x.order(0, 0));
        for (int what = 0; what <= 3; what++) {
            CHECK.due("status " + what, 4 - what, x.status(what));
        }
        CHECK.due("a NONE is no refusal", -1, x.undo());
        CHECK.due("status stays", 2, x.status(2));
    }
}
