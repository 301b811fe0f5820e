import java.util.Map;
import java.util.Random;
import java.util.TreeMap;

/** Random runs of calls, each answer held against the Model's; the seeds are fixed. */
public final class ModelTest {
    /** An object is used for 512 calls; a turn has a few dozen at most. */
    private static final int MOST_CALLS = 470;
    private static final int RUNS = 1800;
    private static final String ANSWERED = "answered";

    /** How often each call ended in each way, over all runs: what they reach is looked at, too. */
    private static final Map<String, Integer> REACH = new TreeMap<>();

    private final Check check = new Check();
    private final Random random;
    private final RandomText texts;
    private final DueQueue real = new DueQueue();
    private final Model model = new Model();
    private final StringBuilder told = new StringBuilder();
    private int calls;

    private ModelTest(long seed) {
        random = new Random(seed);
        texts = new RandomText(random);
    }

    public static void main(String[] args) {
        Check all = new Check();
        long answers = 0;
        for (int seed = 0; seed < RUNS && all.isFine(); seed++) {
            ModelTest one = new ModelTest(seed);
            one.setDigits(1 + seed / 6 % 4);
            int calls = one.go(seed % 6);
            answers += calls;
            all.same("run of seed " + seed + " with " + calls + " calls", "true",
                    Boolean.toString(one.check.isFine() && calls <= 512));
            if (!one.check.isFine()) {
                System.out.println(one.told);
            }
        }
        System.out.println("ModelTest: " + answers + " answers of random runs");
        if (all.isFine()) {
            lookAtReach(all);
        }
        all.end("ModelTest");
    }

    // ---- what the runs reach

    /** Runs that seldom come somewhere show nothing about it: each way of each call must come often. */
    private static void lookAtReach(Check all) {
        for (String act : new String[] {"push", "pop", "lessen", "drop", "pour", "digits", "clear", "undo", "order"}) {
            for (int bits = 1; bits <= 4; bits++) {
                reached(all, act + " by " + bits + " " + ANSWERED, 200);
            }
        }
        for (String text : new String[] {"plan", "chart"}) {
            for (int fault = -9; fault <= -7; fault++) {
                reached(all, text + " " + fault, 100);
            }
        }
        for (String asked : new String[] {"run", "taken", "way", "ways", "nodes", "replay", "happened"}) {
            reached(all, asked + " above 0", 2000);
        }
        for (String asked : new String[] {"told", "queue", "item", "bucket", "order"}) {
            reached(all, asked + " above 0", 1000);
        }
        reachedRefusals(all, Check.INDEX, "push", "pop", "lessen", "drop", "pour", "clear", "queue", "item",
                "bucket", "order");
        reachedRefusals(all, Check.ARGUMENT, "plan", "chart", "push", "lessen", "digits", "told", "queue", "item",
                "run", "taken", "way", "ways", "nodes", "replay", "happened");
        reachedRefusals(all, Check.STATE, "push", "pop", "lessen", "drop", "pour", "digits");
        reachedRefusals(all, Check.ELEMENT, "lessen", "drop", "item", "order", "taken", "way", "ways", "nodes",
                "happened");
    }

    private static void reachedRefusals(Check all, String reason, String... calls) {
        for (String call : calls) {
            reached(all, call + " " + reason, 100);
        }
    }

    private static void reached(Check all, String what, int often) {
        int count = REACH.getOrDefault(what, 0);
        all.same("the runs reach '" + what + "' " + often + " times (" + count + ")", "true",
                Boolean.toString(count >= often));
    }

    private void noteReach(String name, String got) {
        boolean isNumber = !got.endsWith("Exception");
        note(name + " " + (isNumber ? ANSWERED : got));
        note(name + " by " + model.state.bits + " " + (isNumber ? ANSWERED : got));
        if (isNumber) {
            note(name + " " + (Long.parseLong(got) > 0 ? "above 0" : got));
        }
    }

    private static void note(String what) {
        REACH.merge(what, 1, Integer::sum);
    }

    // ---- runs

    /** How many calls there were: it ends with the first answer that differs. */
    private int go(int sort) {
        while (calls < MOST_CALLS && check.isFine()) {
            switch (sort) {
                case 0 -> handCall();
                case 1 -> fullHandCall();
                case 2 -> planCall();
                case 3 -> chartCall();
                case 4 -> textCall();
                default -> anyCall();
            }
        }
        return calls;
    }

    private void same(String call, Check.Call mine, Check.Call due) {
        calls++;
        String want = Check.outcome(due);
        String got = Check.outcome(mine);
        told.append(call).append(" -> ").append(got).append('\n');
        check.same(call, want, got);
        if (want.equals(got)) {
            noteReach(call.substring(0, call.indexOf('(')), got);
        }
    }

    private void anyCall() {
        switch (random.nextInt(5)) {
            case 0 -> handCall();
            case 1 -> planCall();
            case 2 -> chartCall();
            case 3 -> edgeCall();
            default -> textCall();
        }
    }

    /** Numbers from the edges of all ranges, in any mixture. */
    private void edgeCall() {
        int[] ints = {Integer.MIN_VALUE, -2, -1, 0, 1, 2, 4, 5, 8, 15, 16, 199, 200, 300, 500, Integer.MAX_VALUE};
        long[] longs = {Long.MIN_VALUE, -1, 0, 1, 1 << 30, Model.TOP, Model.TOP + 1, Long.MAX_VALUE};
        int a = one(2) ? random.nextInt(4) : ints[random.nextInt(ints.length)];
        int b = one(2) ? random.nextInt(4) : ints[random.nextInt(ints.length)];
        int c = one(2) ? random.nextInt(4) : ints[random.nextInt(ints.length)];
        int d = ints[random.nextInt(ints.length)];
        long e = longs[random.nextInt(longs.length)];
        switch (random.nextInt(20)) {
            case 0 -> same("plan(" + a + ")", () -> real.plan(a), () -> model.plan(a));
            case 1 -> same("chart(" + a + ")", () -> real.chart(a), () -> model.chart(a));
            case 2 -> push(a, e);
            case 3 -> pop(a);
            case 4 -> lessen(a, b, e);
            case 5 -> drop(a, b);
            case 6 -> pour(a);
            case 7 -> {
                setDigits(a);
                clear(d);
            }
            case 8 -> same("told(" + a + ")", () -> real.told(a), () -> model.told(a));
            case 9 -> askQueue(a, b);
            case 10 -> askItem(a, b, c);
            case 11 -> askBucket(a, b);
            case 12 -> askOrder(a, b);
            case 13 -> askRun(a, b);
            case 14 -> askTaken(a, b, c);
            case 15 -> askWay(a, b, c, d);
            case 16 -> askWays(a, b, c);
            case 17 -> askNodes(a, b, c);
            case 18 -> askReplay(a, e, b);
            default -> askHappened(a, e, b, c);
        }
        same("status(" + a + ")", () -> real.status(a), () -> model.status(a));
        print();
    }

    private void print() {
        same("print()", real::print, model::print);
    }

    // ---- the queues by hand

    private void handCall() {
        int queue = one(30) ? random.nextInt(5) - 2 : random.nextInt(2);
        switch (random.nextInt(20)) {
            case 0, 1, 2, 3, 4, 5 -> push(queue, key(queue));
            case 6, 7, 8 -> pop(queue);
            case 9, 10 -> lessen(queue);
            case 11 -> drop(queue, item(queue));
            case 12 -> seldomAct(queue);
            case 13 -> undo();
            default -> askHand(queue);
        }
    }

    private void fullHandCall() {
        int queue = one(4) ? 1 : 0;
        if (!one(3)) {
            push(queue, key(queue));
        } else {
            handCall();
        }
    }

    private void push(int queue, long key) {
        same("push(" + queue + ", " + key + ")", () -> real.push(queue, key), () -> model.push(queue, key));
    }

    private void pop(int queue) {
        same("pop(" + queue + ")", () -> real.pop(queue), () -> model.pop(queue));
    }

    private void lessen(int queue) {
        int item = item(queue);
        long key = key(queue);
        Model.Heap heap = heap(queue);
        if (heap.holds(item) && !one(4)) {
            long room = heap.items.get(item).key - heap.last;
            key = heap.last + (one(4) ? room : random.nextLong(room + 1)) + (one(10) ? 1 : 0);
        }
        lessen(queue, item, key);
    }

    private void lessen(int queue, int item, long key) {
        same("lessen(" + queue + ", " + item + ", " + key + ")", () -> real.lessen(queue, item, key),
                () -> model.lessen(queue, item, key));
    }

    private void drop(int queue, int item) {
        same("drop(" + queue + ", " + item + ")", () -> real.drop(queue, item), () -> model.drop(queue, item));
    }

    private void pour(int queue) {
        same("pour(" + queue + ")", () -> real.pour(queue), () -> model.pour(queue));
    }

    private void clear(int queue) {
        same("clear(" + queue + ")", () -> real.clear(queue), () -> model.clear(queue));
    }

    private void setDigits(int bits) {
        same("digits(" + bits + ")", () -> real.digits(bits), () -> model.digits(bits));
    }

    private void seldomAct(int queue) {
        switch (random.nextInt(10)) {
            case 0 -> clear(queue);
            case 1, 2 -> setDigits(random.nextInt(6));
            case 3 -> otherDigits();
            default -> pour(queue);
        }
    }

    /** Other digits need empty queues: cleared, or taken to the end, so that LAST stays. */
    private void otherDigits() {
        for (int queue = 0; queue < 2; queue++) {
            if (one(2) || heap(queue).waiting().size() > 10) {
                clear(queue);
            }
            while (!heap(queue).waiting().isEmpty()) {
                pop(queue);
            }
        }
        setDigits(1 + random.nextInt(4));
    }

    /** Several at a time now and then: down to the eighth act, and beyond. */
    private void undo() {
        int times = one(3) ? 1 + random.nextInt(9) : 1;
        for (int i = 0; i < times; i++) {
            same("undo()", real::undo, model::undo);
        }
    }

    private void askHand(int queue) {
        int what = what(6);
        switch (random.nextInt(8)) {
            case 0 -> same("told(" + what + ")", () -> real.told(what), () -> model.told(what));
            case 1, 2 -> askQueue(queue, what);
            case 3, 4 -> askItem(queue, item(queue), what(4));
            case 5 -> askBucket(queue, bucketNumber(queue));
            case 6 -> askOrder(queue, random.nextInt(heap(queue).waiting().size() + 2) - (one(10) ? 1 : 0));
            default -> print();
        }
        same("status(" + what + ")", () -> real.status(what), () -> model.status(what));
        print();
    }

    private void askQueue(int queue, int what) {
        same("queue(" + queue + ", " + what + ")", () -> real.queue(queue, what), () -> model.queue(queue, what));
    }

    private void askItem(int queue, int item, int what) {
        same("item(" + queue + ", " + item + ", " + what + ")", () -> real.item(queue, item, what),
                () -> model.item(queue, item, what));
    }

    private void askBucket(int queue, int bucket) {
        same("bucket(" + queue + ", " + bucket + ")", () -> real.bucket(queue, bucket),
                () -> model.bucket(queue, bucket));
    }

    private void askOrder(int queue, int k) {
        same("order(" + queue + ", " + k + ")", () -> real.order(queue, k), () -> model.order(queue, k));
    }

    /** Mostly one that has an item. */
    private int bucketNumber(int queue) {
        int item = item(queue);
        if (heap(queue).holds(item) && !one(3)) {
            return heap(queue).items.get(item).bucket;
        }
        return one(10) ? random.nextInt() : random.nextInt(160) - 3;
    }

    private Model.Heap heap(int queue) {
        return model.state.heaps[queue == 1 ? 1 : 0];
    }

    private long key(int queue) {
        long last = heap(queue).last;
        return switch (random.nextInt(24)) {
            case 0 -> -1 - random.nextInt(2);
            case 1 -> Model.TOP + random.nextInt(2);
            case 2 -> random.nextLong();
            case 3 -> last - random.nextInt(3);
            case 4, 5, 6 -> Math.min(Model.TOP, last + random.nextLong(1L << random.nextInt(40)));
            case 7, 8, 9, 10, 11 -> last + random.nextInt(1000);
            default -> last + random.nextInt(40);
        };
    }

    /** Mostly one that waits. */
    private int item(int queue) {
        Model.Heap heap = heap(queue);
        int waits = heap.waiting().size();
        if (waits > 0 && !one(3)) {
            return heap.waiting().get(random.nextInt(waits));
        }
        return random.nextInt(heap.items.size() + 3) - 1;
    }

    // ---- plans

    private void planCall() {
        switch (random.nextInt(10)) {
            case 0 -> readText(true, texts.plan());
            case 1, 2 -> askTaken(bits());
            case 3 -> same("fewest()", real::fewest, model::fewest);
            default -> askRun(bits(), what(7));
        }
    }

    private void askTaken(int bits) {
        long all = bits >= 1 && bits <= 4 ? model.run(bits, 2) : 1;
        askTaken(bits, random.nextInt((int) all + 2) - (one(10) ? 1 : 0), what(1));
    }

    private void askTaken(int bits, int k, int what) {
        same("taken(" + bits + ", " + k + ", " + what + ")", () -> real.taken(bits, k, what),
                () -> model.taken(bits, k, what));
    }

    private void askRun(int bits, int what) {
        same("run(" + bits + ", " + what + ")", () -> real.run(bits, what), () -> model.run(bits, what));
    }

    // ---- charts

    private void chartCall() {
        if (one(20)) {
            readText(false, texts.chart());
            return;
        }
        switch (random.nextInt(11)) {
            case 0, 1, 2 -> askWay(bits(), node(), node(), what(5));
            case 3, 4 -> askWays(bits(), node(), what(4));
            case 5, 6 -> askNodes(bits(), node(), node());
            case 7, 8 -> askReplay(bits(), till(), what(11));
            default -> askHappened(bits(), till());
        }
    }

    private void askWay(int bits, int from, int to, int what) {
        same("way(" + bits + ", " + from + ", " + to + ", " + what + ")",
                () -> real.way(bits, from, to, what), () -> model.way(bits, from, to, what));
    }

    private void askWays(int bits, int from, int what) {
        same("ways(" + bits + ", " + from + ", " + what + ")",
                () -> real.ways(bits, from, what), () -> model.ways(bits, from, what));
    }

    private void askNodes(int bits, int from, int to) {
        same("nodes(" + bits + ", " + from + ", " + to + ")",
                () -> real.nodes(bits, from, to), () -> model.nodes(bits, from, to));
    }

    private void askReplay(int bits, long till, int what) {
        same("replay(" + bits + ", " + till + ", " + what + ")",
                () -> real.replay(bits, till, what), () -> model.replay(bits, till, what));
    }

    private void askHappened(int bits, long till) {
        boolean stands = bits >= 1 && bits <= 4 && till >= 0 && till <= Model.TOP;
        long all = stands ? model.replay(bits, till, 0) : 1;
        askHappened(bits, till, random.nextInt((int) all + 2) - (one(10) ? 1 : 0), what(1));
    }

    private void askHappened(int bits, long till, int k, int what) {
        same("happened(" + bits + ", " + till + ", " + k + ", " + what + ")",
                () -> real.happened(bits, till, k, what), () -> model.happened(bits, till, k, what));
    }

    /** Mostly one that an edge of the chart goes from or to. */
    private int node() {
        if (model.edges.isEmpty() || one(5)) {
            return one(6) ? random.nextInt(20) - 2 : random.nextInt(16);
        }
        return (int) model.edges.get(random.nextInt(model.edges.size()))[random.nextInt(2)];
    }

    private long till() {
        return switch (random.nextInt(20)) {
            case 0 -> -1 - random.nextInt(2);
            case 1, 2, 3 -> Model.TOP + (one(3) ? 1 : 0);
            case 4, 5, 6, 7, 8 -> random.nextInt(60);
            default -> random.nextLong(1L << random.nextInt(41));
        };
    }

    // ---- texts

    private void textCall() {
        switch (random.nextInt(6)) {
            case 0 -> same("fault()", real::fault, model::fault);
            case 1 -> {
                int what = what(6);
                same("told(" + what + ")", () -> real.told(what), () -> model.told(what));
            }
            case 2 -> {
                int word = random.nextInt();
                feed(word, word * 31, word * 37, word * 41, word * 43);
            }
            default -> {
                boolean asPlan = one(2);
                readText(asPlan, asPlan != one(12) ? texts.plan() : texts.chart());
            }
        }
    }

    private void readText(boolean asPlan, String text) {
        for (int i = 0; i < text.length(); i += 20) {
            feed(Check.word(text, i), Check.word(text, i + 4), Check.word(text, i + 8),
                    Check.word(text, i + 12), Check.word(text, i + 16));
        }
        int n = one(10) ? random.nextInt(520) - 5 : text.length();
        if (asPlan) {
            same("plan(" + n + ") of " + text, () -> real.plan(n), () -> model.plan(n));
        } else {
            same("chart(" + n + ") of " + text, () -> real.chart(n), () -> model.chart(n));
        }
        same("fault()", real::fault, model::fault);
    }

    private void feed(int a, int b, int c, int d, int e) {
        same("feed(" + a + ", ..)", () -> real.feed(a, b, c, d, e), () -> model.feed(a, b, c, d, e));
    }

    // ---- numbers

    private int bits() {
        return one(20) ? random.nextInt(7) - 1 : 1 + random.nextInt(4);
    }

    /** 0 to most; one beside it now and then. */
    private int what(int most) {
        return one(20) ? (one(2) ? -1 : most + 1) : random.nextInt(most + 1);
    }

    private boolean one(int of) {
        return random.nextInt(of) == 0;
    }
}
