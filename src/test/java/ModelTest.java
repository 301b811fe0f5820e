import java.util.Random;

/** Random runs of calls, each answer held against the Model's; the seeds are fixed. */
public final class ModelTest {
    /** An object is used for 512 calls; a turn has a few dozen at most. */
    private static final int MOST_CALLS = 480;

    private final Check check = new Check();
    private final Random random;
    private final DueQueue real = new DueQueue();
    private final Model model = new Model();
    private final StringBuilder told = new StringBuilder();
    private int calls;

    private ModelTest(long seed) {
        random = new Random(seed);
    }

    public static void main(String[] args) {
        Check all = new Check();
        long answers = 0;
        for (long seed = 0; seed < 1800 && all.isFine(); seed++) {
            ModelTest one = new ModelTest(seed);
            int calls = one.go((int) (seed % 6));
            answers += calls;
            all.same("run of seed " + seed + " with " + calls + " calls", "true",
                    Boolean.toString(one.check.isFine()));
            if (!one.check.isFine()) {
                System.out.println(one.told);
            }
        }
        System.out.println("ModelTest: " + answers + " answers of random runs");
        all.end("ModelTest");
    }

    /** How many calls there were: it ends with the first answer that differs. */
    private int go(int sort) {
        while (calls < MOST_CALLS && check.isFine()) {
            switch (sort) {
                case 0 -> handCall();
                case 1 -> fullHandCall();
                case 2 -> planCall();
                case 3 -> chartCall();
                case 4 -> textCall();
                default -> anyCall();
            }
        }
        return calls;
    }

    private void same(String call, Check.Call mine, Check.Call due) {
        calls++;
        String want = Check.outcome(due);
        String got = Check.outcome(mine);
        told.append(call).append(" -> ").append(got).append('\n');
        check.same(call, want, got);
    }

    private void anyCall() {
        switch (random.nextInt(5)) {
            case 0 -> handCall();
            case 1 -> planCall();
            case 2 -> chartCall();
            case 3 -> edgeCall();
            default -> textCall();
        }
    }

    /** Numbers from the edges of all ranges, in any mixture. */
    private void edgeCall() {
        int[] ints = {Integer.MIN_VALUE, -2, -1, 0, 1, 2, 4, 5, 8, 15, 16, 199, 200, 300, 500, Integer.MAX_VALUE};
        long[] longs = {Long.MIN_VALUE, -1, 0, 1, 1 << 30, Model.TOP, Model.TOP + 1, Long.MAX_VALUE};
        int a = one(2) ? random.nextInt(4) : ints[random.nextInt(ints.length)];
        int b = one(2) ? random.nextInt(4) : ints[random.nextInt(ints.length)];
        int c = one(2) ? random.nextInt(4) : ints[random.nextInt(ints.length)];
        int d = ints[random.nextInt(ints.length)];
        long e = longs[random.nextInt(longs.length)];
        switch (random.nextInt(20)) {
            case 0 -> same("plan(" + a + ")", () -> real.plan(a), () -> model.plan(a));
            case 1 -> same("chart(" + a + ")", () -> real.chart(a), () -> model.chart(a));
            case 2 -> same("push", () -> real.push(a, e), () -> model.push(a, e));
            case 3 -> same("pop", () -> real.pop(a), () -> model.pop(a));
            case 4 -> same("lessen", () -> real.lessen(a, b, e), () -> model.lessen(a, b, e));
            case 5 -> same("drop", () -> real.drop(a, b), () -> model.drop(a, b));
            case 6 -> same("pour", () -> real.pour(a), () -> model.pour(a));
            case 7 -> same("digits", () -> real.digits(a), () -> model.digits(a));
            case 8 -> same("told", () -> real.told(a), () -> model.told(a));
            case 9 -> same("queue", () -> real.queue(a, b), () -> model.queue(a, b));
            case 10 -> same("item", () -> real.item(a, b, c), () -> model.item(a, b, c));
            case 11 -> same("bucket", () -> real.bucket(a, b), () -> model.bucket(a, b));
            case 12 -> same("order", () -> real.order(a, b), () -> model.order(a, b));
            case 13 -> same("run", () -> real.run(a, b), () -> model.run(a, b));
            case 14 -> same("taken", () -> real.taken(a, b, c), () -> model.taken(a, b, c));
            case 15 -> same("way", () -> real.way(a, b, c, d), () -> model.way(a, b, c, d));
            case 16 -> same("ways", () -> real.ways(a, b, c), () -> model.ways(a, b, c));
            case 17 -> same("nodes", () -> real.nodes(a, b, c), () -> model.nodes(a, b, c));
            case 18 -> same("replay", () -> real.replay(a, e, b), () -> model.replay(a, e, b));
            default -> same("happened", () -> real.happened(a, e, b, c), () -> model.happened(a, e, b, c));
        }
        same("status(" + a + ")", () -> real.status(a), () -> model.status(a));
        same("print()", real::print, model::print);
    }

    // ---- the queues by hand

    private void handCall() {
        int queue = one(40) ? random.nextInt(5) - 2 : random.nextInt(2);
        switch (random.nextInt(20)) {
            case 0, 1, 2, 3, 4, 5 -> push(queue);
            case 6, 7, 8 -> pop(queue);
            case 9, 10 -> lessen(queue);
            case 11 -> drop(queue);
            case 12 -> seldomAct(queue);
            case 13 -> same("undo()", real::undo, model::undo);
            default -> askHand(queue);
        }
    }

    private void fullHandCall() {
        int queue = one(4) ? 1 : 0;
        if (!one(3)) {
            push(queue);
        } else {
            handCall();
        }
    }

    private void push(int queue) {
        long key = key(queue);
        same("push(" + queue + ", " + key + ")", () -> real.push(queue, key), () -> model.push(queue, key));
    }

    private void pop(int queue) {
        same("pop(" + queue + ")", () -> real.pop(queue), () -> model.pop(queue));
    }

    private void lessen(int queue) {
        int item = item(queue);
        long key = key(queue);
        same("lessen(" + queue + ", " + item + ", " + key + ")", () -> real.lessen(queue, item, key),
                () -> model.lessen(queue, item, key));
    }

    private void drop(int queue) {
        int item = item(queue);
        same("drop(" + queue + ", " + item + ")", () -> real.drop(queue, item), () -> model.drop(queue, item));
    }

    private void seldomAct(int queue) {
        int bits = random.nextInt(6);
        switch (random.nextInt(6)) {
            case 0 -> same("clear(" + queue + ")", () -> real.clear(queue), () -> model.clear(queue));
            case 1, 2 -> same("digits(" + bits + ")", () -> real.digits(bits), () -> model.digits(bits));
            default -> same("pour(" + queue + ")", () -> real.pour(queue), () -> model.pour(queue));
        }
    }

    private void askHand(int queue) {
        int what = random.nextInt(9) - 1;
        int item = item(queue);
        int bucket = random.nextInt(20) == 0 ? random.nextInt() : random.nextInt(160) - 3;
        switch (random.nextInt(8)) {
            case 0 -> same("told(" + what + ")", () -> real.told(what), () -> model.told(what));
            case 1, 2 -> same("queue(" + queue + ", " + what + ")", () -> real.queue(queue, what),
                    () -> model.queue(queue, what));
            case 3, 4 -> same("item(" + queue + ", " + item + ", " + what + ")",
                    () -> real.item(queue, item, what), () -> model.item(queue, item, what));
            case 5 -> same("bucket(" + queue + ", " + bucket + ")", () -> real.bucket(queue, bucket),
                    () -> model.bucket(queue, bucket));
            case 6 -> same("order(" + queue + ", " + item + ")", () -> real.order(queue, item),
                    () -> model.order(queue, item));
            default -> same("print()", real::print, model::print);
        }
        same("status(" + what + ")", () -> real.status(what), () -> model.status(what));
        same("print()", real::print, model::print);
    }

    private long key(int queue) {
        long last = queue == 0 || queue == 1 ? model.state.heaps[queue].last : 0;
        return switch (random.nextInt(24)) {
            case 0 -> -1 - random.nextInt(2);
            case 1 -> Model.TOP + random.nextInt(2);
            case 2 -> random.nextLong() & Model.TOP;
            case 3 -> random.nextLong();
            case 4 -> last - random.nextInt(3);
            case 5, 6, 7 -> last + random.nextInt(1 << 20);
            case 8, 9, 10, 11 -> last + random.nextInt(1000);
            default -> last + random.nextInt(40);
        };
    }

    private int item(int queue) {
        int came = queue == 0 || queue == 1 ? model.state.heaps[queue].items.size() : 5;
        return random.nextInt(came + 3) - 1;
    }

    // ---- plans

    private void planCall() {
        int bits = one(12) ? random.nextInt(7) - 1 : 1 + random.nextInt(4);
        int what = random.nextInt(10) - 1;
        int k = random.nextInt(30) - 1;
        switch (random.nextInt(10)) {
            case 0 -> readText(true, planText());
            case 1, 2 -> same("taken(" + bits + ", " + k + ", " + what % 3 + ")",
                    () -> real.taken(bits, k, what % 3), () -> model.taken(bits, k, what % 3));
            case 3 -> same("fewest()", real::fewest, model::fewest);
            default -> same("run(" + bits + ", " + what + ")", () -> real.run(bits, what),
                    () -> model.run(bits, what));
        }
    }

    private String planText() {
        StringBuilder text = new StringBuilder();
        int range = 1 << random.nextInt(30);
        steps(text, 0, 1 + random.nextInt(one(3) ? 60 : 12), range);
        return spoil(text);
    }

    private void steps(StringBuilder text, int depth, int count, int range) {
        for (int i = 0; i < count; i++) {
            blank(text);
            switch (random.nextInt(10)) {
                case 0, 1, 2, 3 -> text.append("push").append(gap()).append(random.nextInt(range));
                case 4, 5, 6 -> text.append("pop");
                case 7 -> text.append("less").append(gap()).append(random.nextInt(12)).append(' ')
                        .append(gap()).append(random.nextInt(range));
                case 8 -> text.append("drop").append(gap()).append(random.nextInt(12));
                default -> again(text, depth, range);
            }
            blank(text);
            text.append(';');
        }
        blank(text);
    }

    private void again(StringBuilder text, int depth, int range) {
        if (depth == 3 && !one(20)) {
            text.append("pop");
            return;
        }
        text.append("again").append(gap()).append(random.nextInt(one(5) ? 51 : 5));
        blank(text);
        text.append('[');
        steps(text, depth + 1, random.nextInt(4), range);
        text.append(']');
    }

    // ---- charts

    private void chartCall() {
        int bits = one(12) ? random.nextInt(7) - 1 : 1 + random.nextInt(4);
        int from = one(12) ? random.nextInt(20) - 2 : random.nextInt(16);
        int to = one(12) ? random.nextInt(20) - 2 : random.nextInt(16);
        int what = random.nextInt(8) - 1;
        int more = random.nextInt(14) - 1;
        int k = random.nextInt(one(2) ? 20 : 202) - 1;
        long till = one(12) ? key(0) : random.nextLong() & (1L << random.nextInt(40)) - 1;
        switch (random.nextInt(12)) {
            case 0 -> readText(false, chartText());
            case 1, 2, 3, 4 -> same("way(" + bits + ", " + from + ", " + to + ", " + what + ")",
                    () -> real.way(bits, from, to, what), () -> model.way(bits, from, to, what));
            case 5, 6 -> same("ways(" + bits + ", " + from + ", " + what + ")",
                    () -> real.ways(bits, from, what), () -> model.ways(bits, from, what));
            case 7 -> same("nodes(" + bits + ", " + from + ", " + to + ")",
                    () -> real.nodes(bits, from, to), () -> model.nodes(bits, from, to));
            case 8, 9 -> same("replay(" + bits + ", " + till + ", " + more + ")",
                    () -> real.replay(bits, till, more), () -> model.replay(bits, till, more));
            default -> same("happened(" + bits + ", " + till + ", " + k + ", " + what % 3 + ")",
                    () -> real.happened(bits, till, k, what % 3), () -> model.happened(bits, till, k, what % 3));
        }
    }

    private String chartText() {
        StringBuilder text = new StringBuilder();
        int lines = random.nextInt(50);
        int nodes = 2 + random.nextInt(15);
        int range = 1 << random.nextInt(30);
        int sort = random.nextInt(4);
        for (int i = 0; i < lines; i++) {
            int which = sort == 3 ? random.nextInt(3) : one(8) ? random.nextInt(3) : sort;
            switch (which) {
                case 0 -> text.append("edge").append(gap()).append(random.nextInt(nodes)).append(' ')
                        .append(random.nextInt(nodes)).append(' ').append(random.nextInt(range));
                case 1 -> text.append("event").append(gap()).append(letter()).append(gap())
                        .append(random.nextInt(range));
                default -> text.append("rule").append(gap()).append(letter()).append(gap())
                        .append(random.nextInt(range)).append(gap()).append(letter());
            }
            blank(text);
            text.append(';');
        }
        return spoil(text);
    }

    private char letter() {
        return (char) ('A' + random.nextInt(one(100) ? 12 : one(2) ? 2 : 8));
    }

    // ---- texts

    private void textCall() {
        switch (random.nextInt(6)) {
            case 0 -> same("fault()", real::fault, model::fault);
            case 1 -> {
                int what = random.nextInt(7);
                same("told(" + what + ")", () -> real.told(what), () -> model.told(what));
            }
            case 2 -> {
                int word = random.nextInt();
                feed(word, word * 31, word * 37, word * 41, word * 43);
            }
            default -> readText(one(2), one(2) ? planText() : chartText());
        }
    }

    private void readText(boolean asPlan, String text) {
        for (int i = 0; i < text.length(); i += 20) {
            feed(Check.word(text, i), Check.word(text, i + 4), Check.word(text, i + 8),
                    Check.word(text, i + 12), Check.word(text, i + 16));
        }
        int n = one(10) ? random.nextInt(520) - 5 : text.length();
        if (asPlan) {
            same("plan(" + n + ") of " + text, () -> real.plan(n), () -> model.plan(n));
        } else {
            same("chart(" + n + ") of " + text, () -> real.chart(n), () -> model.chart(n));
        }
        same("fault()", real::fault, model::fault);
    }

    private void feed(int a, int b, int c, int d, int e) {
        same("feed(..)", () -> real.feed(a, b, c, d, e), () -> model.feed(a, b, c, d, e));
    }

    private String gap() {
        return one(3) ? "" : one(6) ? "  " : " ";
    }

    private void blank(StringBuilder text) {
        if (one(6)) {
            text.append(' ');
        }
    }

    /** Now and then something is left out, put in or cut off; no longer than the tape. */
    private String spoil(StringBuilder text) {
        if (text.length() > 500) {
            text.setLength(500);
        }
        while (text.length() > 0 && one(3)) {
            int at = random.nextInt(text.length());
            String signs = " ;[]0159AHIZaz" + (char) 0 + (char) 200;
            char sign = signs.charAt(random.nextInt(signs.length()));
            switch (random.nextInt(4)) {
                case 0 -> text.deleteCharAt(at);
                case 1 -> text.setCharAt(at, sign);
                case 2 -> text.insert(at, sign);
                default -> text.setLength(one(4) ? at : text.length());
            }
        }
        if (text.length() > 500) {
            text.setLength(500);
        }
        return text.toString();
    }

    private boolean one(int of) {
        return random.nextInt(of) == 0;
    }
}
