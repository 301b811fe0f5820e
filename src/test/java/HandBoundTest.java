import java.util.ArrayList;
import java.util.List;

/**
 * The bounds of the queues by hand (Terms; promises 1, 6 to 18, 27): for each sentence that names
 * one a test of its own, at the bound and beside it. Exceptions are in RefusalTest.
 */
public final class HandBoundTest {
    private static final Check CHECK = new Check();
    private static final long TOP = 1_099_511_627_775L;

    public static void main(String[] args) {
        aNewObject();
        bucketZeroIsLast();
        bucketsOfEachPlaceAndDigit();
        bucketsAgainstALast();
        bucketsAgainstTheTop();
        itemsLieAsTheyCame();
        itemsAreNumberedFromZero();
        popOfBucketZeroMovesNothing();
        popOfAnotherBucketMovesItsItems();
        popMakesTheLeastKeyLast();
        anItemIsMovedFortyTimesAtMost();
        lessenToAnotherBucket();
        lessenWithinItsBucket();
        dropOfTheFirstAndTheLast();
        twoHundredItems();
        twoHundredItemsOfEach();
        pourFromTheLeastBucket();
        pourLeavesLast();
        pourOfAFullQueue();
        digitsOfBoth();
        clearIsAsAtFirst();
        theLatestEight();
        actsThatAlteredNothing();
        refusedOnesAreNoActs();
        noActsByOtherCalls();
        actsBehindOnesTakenBack();
        undoOfTheTwoHundredth();
        undoOfDigitsAndClear();
        queueOfNone();
        queueOfMany();
        itemsThatWaitNoMore();
        itemsOfBucketZeroWait();
        noSuchBucket();
        orderOfAll();
        printOfNoneAndWrapped();
        CHECK.end("HandBoundTest");
    }

    private static DueQueue with(int bits, long... keys) {
        DueQueue x = new DueQueue();
        x.digits(bits);
        for (long key : keys) {
            x.push(0, key);
        }
        return x;
    }

    /** LAST is this key, and the items that are pushed now begin with 1. */
    private static DueQueue lastOf(int bits, long key) {
        DueQueue x = with(bits, key);
        x.pop(0);
        return x;
    }

    private static void bucketDue(DueQueue x, long key, int bucket) {
        int item = x.push(0, key);
        CHECK.due("BUCKET of " + key + " by LAST " + x.queue(0, 0) + " and " + x.told(0) + " bits", bucket,
                x.item(0, item, 1));
        CHECK.due("it is counted there", 1, x.bucket(0, bucket) - x.item(0, item, 2));
    }

    /** "Empty QUEUES, DIGITS of 1 bit, no PLAN, no CHART." */
    private static void aNewObject() {
        DueQueue x = new DueQueue();
        long[] queue = {0, 0, 0, 0, -1, 0, 0};
        for (int what = 0; what <= 6; what++) {
            CHECK.due("new: queue 0, " + what, queue[what], x.queue(0, what));
            CHECK.due("new: queue 1, " + what, queue[what], x.queue(1, what));
            CHECK.due("new: told " + what, what == 0 ? 1 : 0, x.told(what));
        }
        for (int bits = 1; bits <= 4; bits++) {
            for (int what = 0; what <= 7; what++) {
                CHECK.due("new: run " + what, 0, x.run(bits, what));
            }
            for (int what = 0; what <= 11; what++) {
                CHECK.due("new: replay " + what, 0, x.replay(bits, TOP, what));
            }
            CHECK.due("new: way to itself", 0, x.way(bits, 7, 7, 0));
            CHECK.due("new: way to another", -1, x.way(bits, 7, 8, 0));
        }
        for (int bucket = 0; bucket <= 40; bucket++) {
            CHECK.due("new: bucket " + bucket, 0, x.bucket(0, bucket));
        }
        CHECK.due("new: fault", -1, x.fault());
        CHECK.due("new: fewest", 1, x.fewest());
        CHECK.due("new: print", 0, x.print());
        CHECK.due("new: undo", -1, x.undo());
    }

    /** "LAST: 0 at first. BUCKET of a KEY (LAST or more): 0, if it is LAST; else 1, and .." */
    private static void bucketZeroIsLast() {
        int[] ofNine = {0, 1, 1, 1, 9};
        for (int bits = 1; bits <= 4; bits++) {
            DueQueue x = with(bits);
            bucketDue(x, 0, 0);
            bucketDue(x, 1, 1);
            DueQueue y = lastOf(bits, 8);
            bucketDue(y, 8, 0);
            bucketDue(y, 9, ofNine[bits]);
        }
    }

    /** ".. q times (2 to the b, less 1), and v less 1": every place and digit, and those beside. */
    private static void bucketsOfEachPlaceAndDigit() {
        for (int bits = 1; bits <= 4; bits++) {
            int bucket = 0;
            for (int place = 0; place * bits < 40; place++) {
                DueQueue x = with(bits);
                for (long digit = 1; digit < 1 << bits && digit << place * bits <= TOP; digit++) {
                    bucket++;
                    bucketDue(x, digit << place * bits, bucket);
                }
            }
            int[] highest = {0, 40, 60, 92, 150};
            CHECK.due("the highest BUCKET by " + bits, highest[bits], bucket);
            DueQueue top = with(bits);
            bucketDue(top, TOP, bucket);
            CHECK.due("none above", 0, top.bucket(0, bucket + 1));
        }
        // The greatest KEY of a BUCKET and the least one of the next.
        DueQueue y = with(4);
        bucketDue(y, 15, 15);
        bucketDue(y, 16, 16);
        bucketDue(y, 31, 16);
        bucketDue(y, 32, 17);
        bucketDue(y, 255, 30);
        bucketDue(y, 256, 31);
        bucketDue(y, 0xEFFFFFFFFFL, 149);
        bucketDue(y, 0xF000000000L, 150);
        // By 3 bits the highest place has one bit alone.
        DueQueue z = with(3);
        bucketDue(z, (1L << 39) - 1, 91);
        bucketDue(z, 1L << 39, 92);
    }

    /** "q the highest place at which it and LAST are unlike, v its DIGIT there" */
    private static void bucketsAgainstALast() {
        DueQueue x = lastOf(1, 5);
        bucketDue(x, 5, 0);
        bucketDue(x, 6, 2);
        bucketDue(x, 7, 2);
        bucketDue(x, 8, 4);
        bucketDue(x, 13, 4);
        DueQueue y = lastOf(2, 5);
        bucketDue(y, 6, 2);
        bucketDue(y, 7, 3);
        bucketDue(y, 8, 5);
        bucketDue(y, 12, 6);
        bucketDue(y, 16, 7);
        bucketDue(y, 5 + 16, 7);
        DueQueue z = lastOf(3, 63);
        bucketDue(z, 64, 15);
        bucketDue(z, 64 + 63, 15);
        bucketDue(z, 128, 16);
    }

    private static void bucketsAgainstTheTop() {
        int[] lowest = {0, 1, 3, 7, 15};
        for (int bits = 1; bits <= 4; bits++) {
            DueQueue x = lastOf(bits, TOP - 1);
            bucketDue(x, TOP - 1, 0);
            bucketDue(x, TOP, lowest[bits]);
            DueQueue y = lastOf(bits, TOP);
            bucketDue(y, TOP, 0);
            CHECK.due("LAST can be the top KEY", TOP, y.queue(0, 0));
        }
    }

    /** "ITEMS of a BUCKET lie in the order in which they came to it." */
    private static void itemsLieAsTheyCame() {
        DueQueue x = with(1, 13, 3, 8, 2, 12);
        int[] places = {0, 0, 1, 1, 2};
        for (int item = 0; item < 5; item++) {
            CHECK.due("place of " + item, places[item], x.item(0, item, 2));
        }
        x.lessen(0, 0, 2);
        CHECK.due("12 moves up as 13 leaves", 1, x.item(0, 4, 2));
        CHECK.due("the one that came to it at last is the last", 2, x.item(0, 0, 2));
    }

    /** "an ITEM (numbered as they come, from 0 on)" */
    private static void itemsAreNumberedFromZero() {
        DueQueue x = new DueQueue();
        for (int i = 0; i < 3; i++) {
            CHECK.due("queue 0", i, x.push(0, 9 - i));
            CHECK.due("queue 1", i, x.push(1, 9 - i));
        }
        x.pop(0);
        x.drop(0, 0);
        CHECK.due("those that are gone keep their numbers", 3, x.push(0, 9));
    }

    /** "if it is not 0": of BUCKET 0 the first is taken, and that is all. */
    private static void popOfBucketZeroMovesNothing() {
        DueQueue x = with(1, 4, 0, 0, 1);
        CHECK.due("the first of BUCKET 0", 1, x.pop(0));
        CHECK.due("the next one", 2, x.pop(0));
        CHECK.due("no MOVES", 0, x.queue(0, 3));
        CHECK.due("LAST stays", 0, x.queue(0, 0));
        CHECK.due("BUCKET 1 is dealt out", 3, x.pop(0));
        CHECK.due("a MOVE of the one that is taken", 1, x.queue(0, 3));
        CHECK.due("the other one lies where it lay", 3, x.item(0, 0, 1));
    }

    /** "all its ITEMS, in order, go to their BUCKETS by this LAST, at the end of these" */
    private static void popOfAnotherBucketMovesItsItems() {
        DueQueue x = with(1, 15, 8, 14, 8, 12, 9, 16);
        CHECK.due("the first of the least KEY", 1, x.pop(0));
        long[][] due = {{3, 0}, {-1, -1}, {3, 1}, {0, 0}, {3, 2}, {1, 0}, {5, 0}};
        for (int item = 0; item < 7; item++) {
            CHECK.due("BUCKET of " + item, due[item][0], x.item(0, item, 1));
            CHECK.due("place of " + item, due[item][1], x.item(0, item, 2));
            CHECK.due("MOVES of " + item, item < 6 ? 1 : 0, x.item(0, item, 3));
        }
    }

    /** "of the least BUCKET that has ITEMS: .. LAST becomes the least KEY in it" */
    private static void popMakesTheLeastKeyLast() {
        DueQueue x = with(1, TOP, TOP - 1);
        CHECK.due("the least of BUCKET 40", 1, x.pop(0));
        CHECK.due("LAST", TOP - 1, x.queue(0, 0));
        CHECK.due("the top", 0, x.pop(0));
        CHECK.due("LAST is the top", TOP, x.queue(0, 0));
        CHECK.due("one more of it", 2, x.push(0, TOP));
        CHECK.due("is taken", 2, x.pop(0));
        CHECK.due("LAST stays", TOP, x.queue(0, 0));
        DueQueue y = with(1, 1, 0, 2);
        y.drop(0, 1);
        CHECK.due("BUCKET 1, none being in 0", 0, y.pop(0));
    }

    /** Each pop() deals the rest one BUCKET lower: 40 times by 1 bit, for the key of all ones. */
    private static void anItemIsMovedFortyTimesAtMost() {
        DueQueue x = with(1);
        long key = 0;
        for (int place = 39; place >= 0; place--) {
            key += 1L << place;
            x.push(0, key);
        }
        for (int item = 0; item < 40; item++) {
            CHECK.due("by rising KEYS", item, x.pop(0));
            CHECK.due("moved once more than the one ahead", item + 1, x.item(0, item, 3));
        }
        CHECK.due("MOVES of all", 820, x.queue(0, 3));
        CHECK.due("LAST", TOP, x.queue(0, 0));
    }

    /** "if that is of another BUCKET, it goes there, at the end (a MOVE)" */
    private static void lessenToAnotherBucket() {
        DueQueue x = with(1, 8, 7, 4, 1, 0);
        CHECK.due("8 to 7: the next BUCKET", 3, x.lessen(0, 0, 7));
        CHECK.due("at its end", 2, x.item(0, 0, 2));
        CHECK.due("a MOVE", 1, x.item(0, 0, 3));
        CHECK.due("7 to 1", 1, x.lessen(0, 0, 1));
        CHECK.due("behind the other 1", 1, x.item(0, 0, 2));
        CHECK.due("1 to LAST", 0, x.lessen(0, 0, 0));
        CHECK.due("behind the other 0", 1, x.item(0, 0, 2));
        CHECK.due("three MOVES", 3, x.item(0, 0, 3));
        CHECK.due("of all", 3, x.queue(0, 3));
        CHECK.due("the other 0 is taken first", 4, x.pop(0));
        CHECK.due("then this one", 0, x.pop(0));
    }

    /** "An ITEM gets a KEY no greater than its own: .. else it keeps its place." */
    private static void lessenWithinItsBucket() {
        DueQueue x = with(1, 15, 9, 12);
        CHECK.due("15 to 8: the same BUCKET", 4, x.lessen(0, 0, 8));
        CHECK.due("8 to 8", 4, x.lessen(0, 0, 8));
        CHECK.due("the first one still", 0, x.item(0, 0, 2));
        CHECK.due("12 to 10", 4, x.lessen(0, 2, 10));
        CHECK.due("the third one still", 2, x.item(0, 2, 2));
        CHECK.due("no MOVES", 0, x.queue(0, 3));
        CHECK.due("its KEY", 8, x.item(0, 0, 0));
        CHECK.due("is the least", 8, x.queue(0, 4));
        CHECK.due("and is taken", 0, x.pop(0));
        DueQueue y = with(1, 0, 0);
        CHECK.due("LAST to LAST", 0, y.lessen(0, 0, 0));
        CHECK.due("the first one still", 0, y.pop(0));
    }

    /** "DROP: an ITEM is taken out.": of a BUCKET's first, middle and last one. */
    private static void dropOfTheFirstAndTheLast() {
        DueQueue x = with(1, 8, 9, 10, 11, 12);
        CHECK.due("the first", 4, x.drop(0, 0));
        CHECK.due("the last", 3, x.drop(0, 4));
        CHECK.due("the middle one", 2, x.drop(0, 2));
        CHECK.due("9 is the first", 0, x.item(0, 1, 2));
        CHECK.due("11 is the second", 1, x.item(0, 3, 2));
        CHECK.due("the last but one", 1, x.drop(0, 1));
        CHECK.due("the only one", 0, x.drop(0, 3));
        CHECK.due("none waits", -1, x.queue(0, 4));
        CHECK.due("LAST stays", 0, x.queue(0, 0));
        CHECK.due("no MOVES", 0, x.queue(0, 3));
    }

    /** "200 at most, numbered by each for itself, those that were taken, too" */
    private static void twoHundredItems() {
        DueQueue x = new DueQueue();
        for (int i = 0; i < 199; i++) {
            x.push(0, TOP);
        }
        CHECK.due("the 200th", 199, x.push(0, TOP));
        CHECK.throwing("the 201st", Check.STATE, () -> x.push(0, TOP));
        CHECK.due("200 came", 200, x.queue(0, 2));
        CHECK.due("200 wait", 200, x.queue(0, 1));
        CHECK.due("in one BUCKET", 200, x.bucket(0, 40));
        CHECK.due("the last of them", 199, x.item(0, 199, 2));
        CHECK.due("the first is taken", 0, x.pop(0));
        CHECK.throwing("the 201st, one being taken", Check.STATE, () -> x.push(0, TOP));
        x.drop(0, 1);
        CHECK.throwing("the 201st, one being dropped", Check.STATE, () -> x.push(0, TOP));
        CHECK.due("all were moved", 200, x.queue(0, 3));
        CHECK.due("cleared", 198, x.clear(0));
        CHECK.due("there is room again", 0, x.push(0, TOP));
    }

    private static void twoHundredItemsOfEach() {
        DueQueue x = new DueQueue();
        for (int i = 0; i < 200; i++) {
            x.push(0, 7);
            x.push(1, 7);
        }
        CHECK.due("200 of queue 0", 200, x.queue(0, 1));
        CHECK.due("200 of queue 1", 200, x.queue(1, 1));
        CHECK.throwing("no more in queue 0", Check.STATE, () -> x.push(0, 7));
        CHECK.throwing("no more in queue 1", Check.STATE, () -> x.push(1, 7));
    }

    /** "BUCKET by BUCKET from the least, in order, are PUSHED into this one (as ITEMS of it)" */
    private static void pourFromTheLeastBucket() {
        DueQueue x = with(1, 15, 0, 8, 1, 0, 9);
        x.push(1, 0);
        CHECK.due("all six", 6, x.pour(1));
        long[] keys = {0, 0, 0, 1, 15, 8, 9};
        long[] buckets = {0, 0, 0, 1, 4, 4, 4};
        long[] places = {0, 1, 2, 0, 0, 1, 2};
        for (int item = 0; item < 7; item++) {
            CHECK.due("KEY", keys[item], x.item(1, item, 0));
            CHECK.due("BUCKET", buckets[item], x.item(1, item, 1));
            CHECK.due("place", places[item], x.item(1, item, 2));
            CHECK.due("MOVES", 0, x.item(1, item, 3));
        }
        for (int item = 0; item < 6; item++) {
            CHECK.due("poured away", 2, x.item(0, item, 4));
            CHECK.due("in no BUCKET", -1, x.item(0, item, 1));
        }
    }

    /** "and wait there no more (the other one's LAST stays)" */
    private static void pourLeavesLast() {
        DueQueue x = with(1, 5, 6, 9);
        x.pop(0);
        x.push(1, 4);
        x.pop(1);
        x.push(1, 20);
        CHECK.due("two", 2, x.pour(1));
        CHECK.due("the other one's LAST", 5, x.queue(0, 0));
        CHECK.due("this one's LAST", 4, x.queue(1, 0));
        CHECK.due("none waits there", 0, x.queue(0, 1));
        CHECK.due("three came there", 3, x.queue(0, 2));
        CHECK.due("its MOVES stay", 2, x.queue(0, 3));
        CHECK.due("by LAST 4: 6 in BUCKET 2", 2, x.item(1, 2, 1));
        CHECK.due("none, once more", 0, x.pour(1));
        CHECK.throwing("below the other one's LAST", Check.STATE, () -> x.push(0, 4));
        CHECK.due("at the other one's LAST", 3, x.push(0, 5));
    }

    /** "there would be more than 200 ITEMS": those that came count, not those that wait. */
    private static void pourOfAFullQueue() {
        DueQueue x = new DueQueue();
        for (int i = 0; i < 200; i++) {
            x.push(0, 7);
        }
        CHECK.due("200 into none", 200, x.pour(1));
        CHECK.throwing("not back: 200 came there", Check.STATE, () -> x.pour(0));
        CHECK.due("all wait still", 200, x.queue(1, 1));
        CHECK.due("cleared", 0, x.clear(0));
        CHECK.due("back now", 200, x.pour(0));
        CHECK.due("ITEM 199", 7, x.item(0, 199, 0));
        DueQueue y = with(1, 7, 7);
        for (int i = 0; i < 198; i++) {
            y.push(1, 7);
        }
        y.pop(1);
        CHECK.due("2 into 198 that came", 2, y.pour(1));
        y.push(0, 7);
        CHECK.throwing("1 into 200 that came", Check.STATE, () -> y.pour(1));
        CHECK.due("none came by it", 200, y.queue(1, 2));
        CHECK.due("it waits still", 1, y.queue(0, 1));
    }

    /** "DIGITS of both QUEUES: what they were." */
    private static void digitsOfBoth() {
        DueQueue x = new DueQueue();
        int were = 1;
        for (int bits : new int[] {4, 4, 1, 2, 3, 1}) {
            CHECK.due("they were", were, x.digits(bits));
            CHECK.due("they are", bits, x.told(0));
            were = bits;
        }
        x.digits(4);
        x.push(0, 15);
        x.push(1, 15);
        CHECK.due("of queue 0", 15, x.item(0, 0, 1));
        CHECK.due("of queue 1", 15, x.item(1, 0, 1));
        x.pop(0);
        x.pop(1);
        CHECK.due("ITEMS that wait no more", 4, x.digits(1));
        CHECK.due("LAST stays", 15, x.queue(0, 0));
        bucketDue(x, 16, 5);
    }

    /** "A QUEUE is empty, as at first: how many ITEMS waited." */
    private static void clearIsAsAtFirst() {
        DueQueue x = with(3, 9, 8, 70);
        x.push(1, 5);
        x.pop(0);
        x.drop(0, 2);
        CHECK.due("one waited", 1, x.clear(0));
        long[] none = {0, 0, 0, 0, -1, 0, 0};
        for (int what = 0; what <= 6; what++) {
            CHECK.due("as at first: " + what, none[what], x.queue(0, what));
        }
        CHECK.throwing("ITEM 0 never came", Check.ELEMENT, () -> x.item(0, 0, 0));
        CHECK.due("none waited", 0, x.clear(0));
        CHECK.due("DIGITS stay", 3, x.told(0));
        CHECK.due("the other one stays", 5, x.queue(1, 4));
        CHECK.due("below the LAST that was", 0, x.push(0, 0));
        CHECK.due("not moved", 0, x.item(0, 0, 3));
    }

    /** "undo() takes the latest one back that is not yet, of the latest 8" */
    private static void theLatestEight() {
        for (int acts = 0; acts <= 10; acts++) {
            DueQueue x = new DueQueue();
            for (int i = 0; i < acts; i++) {
                x.push(0, i);
            }
            int kept = Math.min(acts, 8);
            CHECK.due("told of " + acts, kept, x.told(6));
            for (int left = kept - 1; left >= 0; left--) {
                CHECK.due("still, of " + acts, left, x.undo());
                CHECK.due("told then", left, x.told(6));
                CHECK.due("the latest one is gone", acts - kept + left, x.queue(0, 2));
            }
            CHECK.due("none could", -1, x.undo());
            CHECK.due("nor then", -1, x.undo());
            CHECK.due("what is older stays", acts - kept, x.queue(0, 2));
            CHECK.due("none can", 0, x.told(6));
        }
    }

    /** "(also such as altered nothing ..)": eight of them push a push() out. */
    private static void actsThatAlteredNothing() {
        DueQueue x = with(1, 9);
        x.lessen(0, 0, 9);
        x.clear(1);
        x.pour(0);
        x.clear(1);
        x.lessen(0, 0, 9);
        x.pour(0);
        CHECK.due("digits, push and six", 8, x.told(6));
        x.clear(1);
        x.clear(1);
        CHECK.due("eight", 8, x.told(6));
        for (int left = 7; left >= 0; left--) {
            CHECK.due("taken back", left, x.undo());
        }
        CHECK.due("no more", -1, x.undo());
        CHECK.due("the push stays", 1, x.queue(0, 1));
        DueQueue y = new DueQueue();
        y.digits(1);
        CHECK.due("digits as they were", 1, y.told(6));
        CHECK.due("taken back", 0, y.undo());
    }

    /** "(.. refused ones are none)": none of them pushes an act out. */
    private static void refusedOnesAreNoActs() {
        DueQueue x = new DueQueue();
        x.push(0, 5);
        for (int i = 0; i < 9; i++) {
            CHECK.throwing("pop", Check.STATE, () -> x.pop(1));
            CHECK.throwing("push", Check.ARGUMENT, () -> x.push(0, -1));
            CHECK.throwing("lessen", Check.STATE, () -> x.lessen(0, 0, 6));
            CHECK.throwing("drop", Check.ELEMENT, () -> x.drop(0, 1));
            CHECK.throwing("digits", Check.STATE, () -> x.digits(2));
            CHECK.throwing("clear", Check.INDEX, () -> x.clear(2));
            CHECK.throwing("pour", Check.INDEX, () -> x.pour(2));
        }
        CHECK.due("one act", 1, x.told(6));
        CHECK.due("it is taken back", 0, x.undo());
        CHECK.due("none waits", 0, x.queue(0, 1));
        CHECK.due("the refusals stay counted", 27, x.status(2));
    }

    /** "ACTS: push(), pop(), lessen(), drop(), pour(), digits(), clear().": no others. */
    private static void noActsByOtherCalls() {
        DueQueue x = new DueQueue();
        x.push(0, 5);
        Check.feedText(x, "push 1;pop;");
        x.plan(11);
        Check.feedText(x, "event A 1;");
        x.chart(10);
        x.order(0, 0);
        x.run(1, 0);
        x.fewest();
        x.print();
        CHECK.due("one act", 1, x.told(6));
        CHECK.due("the push", 0, x.undo());
        CHECK.due("undo is no act", -1, x.undo());
        CHECK.due("the PLAN stays", 2, x.told(1));
        CHECK.due("the CHART stays", 1, x.told(3));
        CHECK.due("the tape stays", 20, x.feed(0, 0, 0, 0, 0));
        x.push(0, 5);
        x.undo();
        CHECK.due("so it does by undo", 20, x.told(5));
    }

    /** Ones that were taken back are none of "the latest 8" any more (NOTES.md says why). */
    private static void actsBehindOnesTakenBack() {
        DueQueue x = new DueQueue();
        for (int i = 0; i < 10; i++) {
            x.push(0, i);
        }
        x.undo();
        x.undo();
        x.undo();
        CHECK.due("five of eight are left", 5, x.told(6));
        for (int i = 0; i < 3; i++) {
            x.push(0, 100 + i);
        }
        CHECK.due("and three new ones", 8, x.told(6));
        x.push(0, 103);
        CHECK.due("one more pushes one out", 8, x.told(6));
        CHECK.due("seven behind the next undo", 7, x.undo());
        long[] keys = {0, 1, 2, 3, 4, 5, 6, 100, 101, 102};
        for (int item = 0; item < keys.length; item++) {
            CHECK.due("KEY of " + item, keys[item], x.item(0, item, 0));
        }
        for (int left = 6; left >= 0; left--) {
            x.undo();
        }
        CHECK.due("no more", -1, x.undo());
        CHECK.due("three stay", 3, x.queue(0, 2));
    }

    private static void undoOfTheTwoHundredth() {
        DueQueue x = new DueQueue();
        for (int i = 0; i < 200; i++) {
            x.push(0, i);
        }
        CHECK.due("seven", 7, x.undo());
        CHECK.due("199 came", 199, x.queue(0, 2));
        CHECK.throwing("ITEM 199 never came", Check.ELEMENT, () -> x.item(0, 199, 0));
        CHECK.due("there is room for one", 199, x.push(0, 7));
        CHECK.throwing("and for no more", Check.STATE, () -> x.push(0, 7));
        CHECK.due("its KEY", 7, x.item(0, 199, 0));
        CHECK.due("poured", 200, x.pour(1));
        CHECK.due("poured back by undo", 7, x.undo());
        CHECK.due("all wait here", 200, x.queue(0, 1));
        CHECK.due("none came there", 0, x.queue(1, 2));
    }

    private static void undoOfDigitsAndClear() {
        DueQueue x = with(3, 100, 7, 7);
        x.pop(0);
        String before = x.print() + " " + x.item(0, 0, 1) + " " + x.item(0, 2, 2) + " " + x.queue(0, 0);
        x.clear(0);
        x.digits(1);
        CHECK.due("1 bit", 1, x.told(0));
        x.undo();
        CHECK.due("3 bits again", 3, x.told(0));
        x.undo();
        CHECK.same("all is back", before,
                x.print() + " " + x.item(0, 0, 1) + " " + x.item(0, 2, 2) + " " + x.queue(0, 0));
        CHECK.due("it goes on as before", 2, x.pop(0));
    }

    /** "4 the least KEY that waits (NONE)" */
    private static void queueOfNone() {
        DueQueue x = with(1, 9);
        CHECK.due("one waits", 9, x.queue(0, 4));
        x.pop(0);
        long[] due = {9, 0, 1, 1, -1, 0, 0};
        for (int what = 0; what <= 6; what++) {
            CHECK.due("none waits: " + what, due[what], x.queue(0, what));
        }
        x.push(1, 0);
        CHECK.due("0 is a KEY", 0, x.queue(1, 4));
    }

    /** "5 BUCKETS that have ITEMS, 6 the numbers of the BUCKETS of all that wait together" */
    private static void queueOfMany() {
        DueQueue x = with(4);
        for (int i = 0; i < 200; i++) {
            x.push(0, TOP);
        }
        CHECK.due("one BUCKET", 1, x.queue(0, 5));
        CHECK.due("200 times 150", 30_000, x.queue(0, 6));
        CHECK.due("the least is the top KEY", TOP, x.queue(0, 4));
        DueQueue y = with(1);
        long sum = 0;
        for (int place = 0; place < 40; place++) {
            y.push(0, 1L << place);
            y.push(0, 1L << place);
            sum += 2 * (place + 1);
        }
        y.push(0, 0);
        CHECK.due("all 41 BUCKETS", 41, y.queue(0, 5));
        CHECK.due("all numbers together", sum, y.queue(0, 6));
    }

    /** "1 its BUCKET (NONE: it waits no more), 2 its place there, from 0 on (NONE)" */
    private static void itemsThatWaitNoMore() {
        DueQueue x = with(1, 9, 8, 12, 13);
        x.pop(0);
        x.lessen(0, 2, 10);
        x.drop(0, 2);
        x.pour(1);
        // 9 and 13 were poured away; 8 was taken, 12 lessened to 10, then dropped.
        long[][] due = {{9, -1, -1, 1, 2}, {8, -1, -1, 1, 1}, {10, -1, -1, 2, 2}, {13, -1, -1, 1, 2}};
        for (int item = 0; item < due.length; item++) {
            for (int what = 0; what <= 4; what++) {
                CHECK.due("item " + item + ", " + what, due[item][what], x.item(0, item, what));
            }
        }
        long[][] there = {{9, 4, 0, 0, 0}, {13, 4, 1, 0, 0}};
        for (int item = 0; item < there.length; item++) {
            for (int what = 0; what <= 4; what++) {
                CHECK.due("poured " + item + ", " + what, there[item][what], x.item(1, item, what));
            }
        }
    }

    /** "4 0 it waits, 1 it was taken, 2 dropped": in BUCKET 0 it waits, too */
    private static void itemsOfBucketZeroWait() {
        DueQueue x = with(1, 0, 5);
        CHECK.due("in BUCKET 0", 0, x.item(0, 0, 1));
        CHECK.due("the first there", 0, x.item(0, 0, 2));
        CHECK.due("it waits", 0, x.item(0, 0, 4));
        CHECK.due("so does the other", 0, x.item(0, 1, 4));
        CHECK.due("it is dropped", 1, x.drop(0, 0));
        CHECK.due("told so", 2, x.item(0, 0, 4));
        x.pop(0);
        CHECK.due("taken", 1, x.item(0, 1, 4));
        CHECK.due("at LAST, and in no BUCKET", -1, x.item(0, 1, 1));
    }

    /** "(0 where there is no such BUCKET)" */
    private static void noSuchBucket() {
        int[] highest = {0, 40, 60, 92, 150};
        for (int bits = 1; bits <= 4; bits++) {
            DueQueue x = with(bits, 0, TOP, TOP);
            CHECK.due("BUCKET 0", 1, x.bucket(0, 0));
            CHECK.due("the highest BUCKET", 2, x.bucket(0, highest[bits]));
            CHECK.due("the one beside", 0, x.bucket(0, highest[bits] - 1));
            for (int none : new int[] {Integer.MIN_VALUE, -2, -1, highest[bits] + 1, Integer.MAX_VALUE}) {
                CHECK.due("BUCKET " + none, 0, x.bucket(0, none));
            }
            x.pop(0);
            x.drop(0, 1);
            for (int none : new int[] {Integer.MIN_VALUE, -3, -2, -1, 0, highest[bits] + 1}) {
                CHECK.due("BUCKET " + none + ", one taken, one dropped", 0, x.bucket(0, none));
            }
            CHECK.due("none is counted as refused", 0, x.status(0) + x.status(1) + x.status(3));
        }
    }

    /** "The k-th ITEM that would be taken, if all were (0 the first)." */
    private static void orderOfAll() {
        DueQueue x = with(1);
        List<Integer> due = new ArrayList<>();
        for (int i = 0; i < 100; i++) {
            x.push(0, 99 - i);
            due.add(0, i);
        }
        for (int k = 0; k < 100; k++) {
            CHECK.due("order " + k, due.get(k), x.order(0, k));
        }
        CHECK.throwing("order 100", Check.ELEMENT, () -> x.order(0, 100));
        for (int k = 0; k < 100; k++) {
            CHECK.due("as it is then taken", due.get(k), x.pop(0));
        }
        CHECK.throwing("order 0 of none", Check.ELEMENT, () -> x.order(0, 0));
    }

    /** "From 0 on, of QUEUE by QUEUE: 31 times what there is, and LAST; of ITEM by ITEM .." */
    private static void printOfNoneAndWrapped() {
        DueQueue x = new DueQueue();
        CHECK.due("of none", 0, x.print());
        x.push(1, 0);
        CHECK.due("of a KEY 0", 0, x.print());
        x.push(1, 1);
        CHECK.due("of a KEY 1, not moved", 31, x.print());
        x.push(0, 1);
        // QUEUE 0: 0, 1, 0; QUEUE 1: 0, 0, 0, 1, 0.
        CHECK.due("of QUEUE 0 first", (31L * 31 * 31 * 31 * 31 * 31) + 31, x.print());
        x.pop(0);
        long sum = 0;
        for (long part : new long[] {1, 1, 1, 0, 0, 0, 1, 0}) {
            sum = 31 * sum + part;
        }
        CHECK.due("of one that was taken, too", sum, x.print());
        DueQueue y = new DueQueue();
        long wrapped = 0;
        for (int i = 0; i < 200; i++) {
            y.push(0, TOP);
            wrapped = 31 * (31 * wrapped + TOP);
        }
        CHECK.due("of 200, wrapped around", 31 * wrapped, y.print());
    }
}
