/**
 * The queues by hand with digits of every width, at every place (Terms; promises 6 to 18, 27): one
 * run of calls whose answers were worked out for b bits and a lowest place p, t being the highest
 * digit. Its keys have the digits, from place p + 3 down to place p:
 *
 * <pre>
 *   item 0: 0 t 0 0   item 1: 0 t 0 1   item 2: 0 t 1 0   item 3: 1 0 0 0, lessened to 0 t 0 t
 * </pre>
 */
public final class WidthTest {
    private static final Check CHECK = new Check();

    private final int bits;
    private final int place;
    private final int top;
    private final long[] keys;
    private final long lessened;
    /** The bucket of all keys that have digit t at place p + 2, LAST being 0. */
    private final int all;

    private WidthTest(int bits, int place) {
        this.bits = bits;
        this.place = place;
        top = (1 << bits) - 1;
        long first = at(2, top);
        keys = new long[] {first, first + at(0, 1), first + at(1, 1), at(3, 1)};
        lessened = first + at(0, top);
        all = (place + 2) * top + top;
    }

    public static void main(String[] args) {
        for (int bits = 1; bits <= 4; bits++) {
            for (int place = 0; (place + 3) * bits < 40; place++) {
                WidthTest one = new WidthTest(bits, place);
                one.lessen();
                one.pop();
                one.popToTheEnd();
                one.order();
                one.drop();
                one.pour();
                one.pourBehindALast();
                one.undo();
                one.undoOfDigits();
                one.clear();
            }
        }
        CHECK.end("WidthTest");
    }

    private long at(int above, long digit) {
        return digit << (place + above) * bits;
    }

    private void due(String what, long want, long got) {
        CHECK.due(what + ", " + bits + " bits, place " + place, want, got);
    }

    private DueQueue pushed() {
        DueQueue x = new DueQueue();
        x.digits(bits);
        for (long key : keys) {
            x.push(0, key);
        }
        return x;
    }

    private DueQueue withLessened() {
        DueQueue x = pushed();
        x.lessen(0, 3, lessened);
        return x;
    }

    private DueQueue withPopped() {
        DueQueue x = withLessened();
        x.pop(0);
        return x;
    }

    /** An item's bucket, its place there, its moves. */
    private void itemDue(String when, DueQueue x, int queue, int item, int bucket, int placeThere, int moves) {
        due(when + ": bucket of item " + item, bucket, x.item(queue, item, 1));
        due(when + ": place of item " + item, placeThere, x.item(queue, item, 2));
        due(when + ": moves of item " + item, moves, x.item(queue, item, 3));
    }

    private void lessen() {
        DueQueue x = pushed();
        itemDue("pushed", x, 0, 0, all, 0, 0);
        itemDue("pushed", x, 0, 1, all, 1, 0);
        itemDue("pushed", x, 0, 2, all, 2, 0);
        itemDue("pushed", x, 0, 3, all + 1, 0, 0);
        due("lessened to another bucket", all, x.lessen(0, 3, lessened));
        itemDue("lessened to another bucket", x, 0, 3, all, 3, 1);
        due("lessened within its bucket", all, x.lessen(0, 2, keys[1]));
        itemDue("lessened within its bucket", x, 0, 2, all, 2, 0);
        due("its key", keys[1], x.item(0, 2, 0));
        due("lessened to its own key", all, x.lessen(0, 0, keys[0]));
        itemDue("lessened to its own key", x, 0, 0, all, 0, 0);
        due("in the bucket", 4, x.bucket(0, all));
        due("in the one above", 0, x.bucket(0, all + 1));
    }

    private void pop() {
        DueQueue x = withLessened();
        due("pop", 0, x.pop(0));
        popped(x);
        due("moves of all", 5, x.queue(0, 3));
    }

    /** Item 0 was taken: the others differ from it at the places p, p + 1 and p. */
    private void popped(DueQueue x) {
        due("LAST", keys[0], x.queue(0, 0));
        itemDue("popped", x, 0, 0, -1, -1, 1);
        itemDue("popped", x, 0, 1, place * top + 1, 0, 1);
        itemDue("popped", x, 0, 2, (place + 1) * top + 1, 0, 1);
        // By 1 bit the digit t is 1: item 3 lies behind item 1.
        itemDue("popped", x, 0, 3, place * top + top, bits == 1 ? 1 : 0, 2);
        due("buckets that have items", bits == 1 ? 2 : 3, x.queue(0, 5));
        due("their numbers together", (3L * place + 2) * top + 2, x.queue(0, 6));
        due("the least key", keys[1], x.queue(0, 4));
    }

    private void popToTheEnd() {
        DueQueue x = withPopped();
        int[] items = {1, 3, 2};
        long[] lasts = {keys[1], lessened, keys[2]};
        for (int i = 0; i < 3; i++) {
            due("pop " + (i + 1), items[i], x.pop(0));
            due("LAST by it", lasts[i], x.queue(0, 0));
        }
        int[] moves = {1, 2, 2, 3};
        for (int item = 0; item < 4; item++) {
            itemDue("at the end", x, 0, item, -1, -1, moves[item]);
            due("taken", 1, x.item(0, item, 4));
        }
        long print = keys[2];
        for (int item = 0; item < 4; item++) {
            print = 31 * (31 * print + (item == 3 ? lessened : keys[item])) + moves[item];
        }
        due("print", 31 * print, x.print());
    }

    private void order() {
        DueQueue x = withLessened();
        int[] items = {0, 1, 3, 2};
        for (int k = 0; k < 4; k++) {
            due("order " + k, items[k], x.order(0, k));
        }
        x.pop(0);
        for (int k = 0; k < 3; k++) {
            due("order " + k + " behind a pop", items[k + 1], x.order(0, k));
        }
        popped(x);
    }

    private void drop() {
        DueQueue x = withLessened();
        due("drop", 3, x.drop(0, 1));
        itemDue("one was dropped", x, 0, 0, all, 0, 0);
        itemDue("one was dropped", x, 0, 1, -1, -1, 0);
        itemDue("one was dropped", x, 0, 2, all, 1, 0);
        itemDue("one was dropped", x, 0, 3, all, 2, 1);
        due("its fate", 2, x.item(0, 1, 4));
        due("drop of the one that is due", 2, x.drop(0, 0));
        due("the next one", 3, x.pop(0));
        due("its key is LAST", lessened, x.queue(0, 0));
    }

    private void pour() {
        DueQueue x = withPopped();
        due("pour", 3, x.pour(1));
        long[] poured = {keys[1], lessened, keys[2]};
        for (int item = 0; item < 3; item++) {
            due("key of poured item " + item, poured[item], x.item(1, item, 0));
            itemDue("poured", x, 1, item, all, item, 0);
            due("fate where it came from", 2, x.item(0, item + 1, 4));
        }
        due("none waits there", 0, x.queue(0, 1));
        due("LAST stays there", keys[0], x.queue(0, 0));
        due("moves stay there", 5, x.queue(0, 3));
        due("LAST here", 0, x.queue(1, 0));
    }

    private void pourBehindALast() {
        DueQueue x = withPopped();
        x.push(1, keys[1]);
        x.pop(1);
        due("pour", 3, x.pour(1));
        itemDue("poured behind a LAST", x, 1, 1, 0, 0, 0);
        itemDue("poured behind a LAST", x, 1, 2, bits == 1 ? 0 : place * top + top, bits == 1 ? 1 : 0, 0);
        itemDue("poured behind a LAST", x, 1, 3, (place + 1) * top + 1, 0, 0);
        DueQueue y = withPopped();
        y.push(1, keys[1] + 1);
        y.pop(1);
        CHECK.throwing("pour of one below LAST", Check.STATE, () -> y.pour(1));
        popped(y);
    }

    private void undo() {
        DueQueue x = withPopped();
        x.pour(1);
        x.clear(0);
        due("acts", 8, x.told(6));
        due("undo of clear", 7, x.undo());
        due("poured ones", 3, x.queue(1, 1));
        due("undo of pour", 6, x.undo());
        popped(x);
        due("none came", 0, x.queue(1, 2));
        due("undo of pop", 5, x.undo());
        due("LAST", 0, x.queue(0, 0));
        itemDue("undo of pop", x, 0, 0, all, 0, 0);
        itemDue("undo of pop", x, 0, 3, all, 3, 1);
        due("undo of lessen", 4, x.undo());
        itemDue("undo of lessen", x, 0, 3, all + 1, 0, 0);
        due("its key", keys[3], x.item(0, 3, 0));
        due("undo of push", 3, x.undo());
        due("how many came", 3, x.queue(0, 2));
        for (int left = 2; left >= 0; left--) {
            due("undo", left, x.undo());
        }
        due("none waits", 0, x.queue(0, 1));
        due("digits() is the ninth act back", -1, x.undo());
        due("and stays", bits, x.told(0));
    }

    private void undoOfDigits() {
        DueQueue x = withPopped();
        x.pour(1);
        for (int left = 7; left >= 0; left--) {
            due("undo of eight", left, x.undo());
        }
        due("digits() is the eighth act back", 1, x.told(0));
        due("which is the bucket by 1 bit", (place + 3) * bits + 1, bucketOfPushed(x, keys[3]));
    }

    private static long bucketOfPushed(DueQueue x, long key) {
        return x.item(0, x.push(0, key), 1);
    }

    private void clear() {
        DueQueue x = withPopped();
        due("clear", 3, x.clear(0));
        due("LAST", 0, x.queue(0, 0));
        due("print", 0, x.print());
        due("digits stay", bits, x.told(0));
        due("numbered anew", 0, x.push(0, keys[3]));
        itemDue("behind clear", x, 0, 0, all + 1, 0, 0);
    }
}
