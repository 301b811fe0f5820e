import java.util.ArrayList;
import java.util.Arrays;
import java.util.HashSet;
import java.util.List;
import java.util.NoSuchElementException;
import java.util.Set;

/**
 * The document told a second time, as literally as can be, with lists and copies: what the random
 * runs hold the class against. It shares no code with the class.
 */
final class Model {
    static final long TOP = (1L << 40) - 1;

    static final class Item {
        long key;
        long moves;
        int bucket;
        int fate;

        Item copy() {
            Item other = new Item();
            other.key = key;
            other.moves = moves;
            other.bucket = bucket;
            other.fate = fate;
            return other;
        }
    }

    static final class Heap {
        int bits;
        int most;
        long last = 0;
        List<Item> items = new ArrayList<>();
        List<List<Integer>> buckets = new ArrayList<>();
        Set<Integer> ever = new HashSet<>();

        Heap(int bits, int most) {
            this.bits = bits;
            this.most = most;
            for (int i = 0; i < 200; i++) {
                buckets.add(new ArrayList<>());
            }
        }

        Heap copy() {
            Heap other = new Heap(bits, most);
            other.last = last;
            for (Item item : items) {
                other.items.add(item.copy());
            }
            for (int i = 0; i < buckets.size(); i++) {
                other.buckets.get(i).addAll(buckets.get(i));
            }
            return other;
        }

        int digit(long key, int place) {
            return (int) (key / Math.round(Math.pow(2, place * bits)) % (1 << bits));
        }

        int bucketOf(long key) {
            if (key == last) {
                return 0;
            }
            for (int place = 40; place >= 0; place--) {
                if (place * bits < 44 && digit(key, place) != digit(last, place)) {
                    return 1 + place * ((1 << bits) - 1) + digit(key, place) - 1;
                }
            }
            throw new AssertionError();
        }

        void come(int number, int bucket) {
            items.get(number).bucket = bucket;
            buckets.get(bucket).add(number);
            ever.add(bucket);
        }

        /** Answers below -1 mean: refused. */
        int push(long key) {
            if (key < last || items.size() >= most) {
                return -2;
            }
            Item item = new Item();
            item.key = key;
            items.add(item);
            come(items.size() - 1, bucketOf(key));
            return items.size() - 1;
        }

        int pop() {
            int least = 0;
            while (least < buckets.size() && buckets.get(least).isEmpty()) {
                least++;
            }
            if (least == buckets.size()) {
                return -2;
            }
            if (least != 0) {
                List<Integer> dealt = new ArrayList<>(buckets.get(least));
                buckets.get(least).clear();
                last = dealt.stream().mapToLong(i -> items.get(i).key).min().getAsLong();
                for (int number : dealt) {
                    items.get(number).moves++;
                    come(number, bucketOf(items.get(number).key));
                }
            }
            int number = buckets.get(0).remove(0);
            items.get(number).fate = 1;
            return number;
        }

        boolean holds(int number) {
            return number >= 0 && number < items.size() && items.get(number).fate == 0;
        }

        int lessen(int number, long key) {
            if (!holds(number) || key < last || key > items.get(number).key) {
                return -2;
            }
            Item item = items.get(number);
            item.key = key;
            int bucket = bucketOf(key);
            if (bucket != item.bucket) {
                buckets.get(item.bucket).remove(Integer.valueOf(number));
                item.moves++;
                come(number, bucket);
            }
            return bucket;
        }

        int drop(int number) {
            if (!holds(number)) {
                return -2;
            }
            buckets.get(items.get(number).bucket).remove(Integer.valueOf(number));
            items.get(number).fate = 2;
            return waiting().size();
        }

        List<Integer> waiting() {
            List<Integer> all = new ArrayList<>();
            for (List<Integer> bucket : buckets) {
                all.addAll(bucket);
            }
            return all;
        }

        long moves() {
            return items.stream().mapToLong(i -> i.moves).sum();
        }

        long leastKey() {
            return waiting().stream().mapToLong(i -> items.get(i).key).min().orElse(-1);
        }
    }

    /** The two queues as they are at one time. */
    static final class State {
        int bits = 1;
        Heap[] heaps = {new Heap(1, 200), new Heap(1, 200)};

        State copy() {
            State other = new State();
            other.bits = bits;
            other.heaps = new Heap[] {heaps[0].copy(), heaps[1].copy()};
            return other;
        }
    }

    static final class Step {
        String word;
        long first;
        long second;
        List<Step> inner = new ArrayList<>();
    }

    static final class Fault extends Exception {
        private static final long serialVersionUID = 1;
        final int kind;
        final int place;

        Fault(int kind, int place) {
            this.kind = kind;
            this.place = place;
        }
    }

    State state = new State();
    List<State> saved = new ArrayList<>();
    List<Byte> tape = new ArrayList<>();
    List<Step> plan = new ArrayList<>();
    int planSteps = 0;
    List<long[]> edges = new ArrayList<>();
    List<long[]> events = new ArrayList<>();
    List<long[]> rules = new ArrayList<>();
    int faultPlace = -1;
    int[] refused = new int[4];

    // ---- refusals

    private void index(boolean fine) {
        if (!fine) {
            refused[0]++;
            throw new IndexOutOfBoundsException();
        }
    }

    private void argument(boolean fine) {
        if (!fine) {
            refused[1]++;
            throw new IllegalArgumentException();
        }
    }

    private void fit(boolean fine) {
        if (!fine) {
            refused[2]++;
            throw new IllegalStateException();
        }
    }

    private void element(boolean fine) {
        if (!fine) {
            refused[3]++;
            throw new NoSuchElementException();
        }
    }

    private Heap heap(int queue) {
        index(queue == 0 || queue == 1);
        return state.heaps[queue];
    }

    private Item came(Heap heap, int item) {
        element(item >= 0 && item < heap.items.size());
        return heap.items.get(item);
    }

    private void key(long key) {
        argument(0 <= key && key <= TOP);
    }

    private void within(long value, long low, long high) {
        argument(low <= value && value <= high);
    }

    // ---- the texts

    int feed(int... words) {
        if (tape.size() + 20 > 500) {
            return -1;
        }
        for (int word : words) {
            for (int i = 3; i >= 0; i--) {
                tape.add((byte) (word >> (8 * i)));
            }
        }
        return tape.size();
    }

    /** Reads a text by its grammar; the first fault ends it. */
    final class Text {
        final String text;
        int at = 0;

        Text(int n) {
            StringBuilder read = new StringBuilder();
            for (int i = 0; i < n; i++) {
                read.append((char) (tape.get(i) & 255));
            }
            text = read.toString();
        }

        void blanks() {
            while (text.startsWith(" ", at)) {
                at++;
            }
        }

        boolean isAt(String sign) {
            blanks();
            return text.startsWith(sign, at);
        }

        boolean isOver() {
            blanks();
            return at == text.length();
        }

        void sign(String sign) throws Fault {
            if (!isAt(sign)) {
                throw new Fault(1, at);
            }
            at++;
        }

        String run(String signs) {
            blanks();
            int start = at;
            while (at < text.length() && signs.indexOf(text.charAt(at)) >= 0) {
                at++;
            }
            return text.substring(start, at);
        }

        long number(long most) throws Fault {
            blanks();
            int start = at;
            String digits = run("0123456789");
            if (digits.isEmpty()) {
                throw new Fault(1, start);
            }
            if (new java.math.BigInteger(digits).compareTo(java.math.BigInteger.valueOf(most)) > 0) {
                throw new Fault(2, start);
            }
            return Long.parseLong(digits);
        }

        String word() {
            return run("abcdefghijklmnopqrstuvwxyz");
        }

        long letter() throws Fault {
            blanks();
            int start = at;
            String rest = text.substring(at);
            if (!rest.matches("(?s)[A-H]([^a-zA-Z].*)?")) {
                throw new Fault(1, start);
            }
            at++;
            return rest.charAt(0) - 'A';
        }

        int counted;

        List<Step> steps(int depth) throws Fault {
            List<Step> all = new ArrayList<>();
            while (!isOver() && !(depth > 0 && isAt("]"))) {
                all.add(step(depth));
                sign(";");
            }
            return all;
        }

        Step step(int depth) throws Fault {
            blanks();
            int start = at;
            Step step = new Step();
            step.word = word();
            counted++;
            switch (step.word) {
                case "push" -> step.second = number(1_000_000_000);
                case "pop" -> { }
                case "less" -> {
                    step.first = number(199);
                    step.second = number(1_000_000_000);
                }
                case "drop" -> step.first = number(199);
                case "again" -> {
                    step.first = number(50);
                    if (isAt("[") && depth == 3) {
                        throw new Fault(3, at);
                    }
                    sign("[");
                    step.inner = steps(depth + 1);
                    sign("]");
                }
                default -> throw new Fault(1, start);
            }
            return step;
        }
    }

    int plan(int n) {
        argument(n >= 0 && n <= tape.size() && n <= 300);
        Text text = new Text(n);
        tape.clear();
        faultPlace = -1;
        try {
            List<Step> steps = text.steps(0);
            plan = steps;
            planSteps = text.counted;
            return planSteps;
        } catch (Fault fault) {
            faultPlace = fault.place;
            return fault.kind - 10;
        }
    }

    int chart(int n) {
        argument(n >= 0 && n <= tape.size() && n <= 500);
        Text text = new Text(n);
        tape.clear();
        faultPlace = -1;
        List<long[]> newEdges = new ArrayList<>();
        List<long[]> newEvents = new ArrayList<>();
        List<long[]> newRules = new ArrayList<>();
        try {
            while (!text.isOver()) {
                line(text, newEdges, newEvents, newRules);
                text.sign(";");
            }
        } catch (Fault fault) {
            faultPlace = fault.place;
            return fault.kind - 10;
        }
        edges = newEdges;
        events = newEvents;
        rules = newRules;
        return edges.size() + events.size() + rules.size();
    }

    private static void line(Text text, List<long[]> edges, List<long[]> events, List<long[]> rules)
            throws Fault {
        text.blanks();
        int start = text.at;
        long k = 1_000_000_000;
        switch (text.word()) {
            case "edge" -> {
                room(edges, 60, start);
                edges.add(new long[] {text.number(15), text.number(15), text.number(k)});
            }
            case "event" -> {
                room(events, 12, start);
                events.add(new long[] {text.letter(), text.number(k)});
            }
            case "rule" -> {
                room(rules, 16, start);
                rules.add(new long[] {text.letter(), text.number(k), text.letter()});
            }
            default -> throw new Fault(1, start);
        }
    }

    private static void room(List<long[]> lines, int most, int start) throws Fault {
        if (lines.size() == most) {
            throw new Fault(3, start);
        }
    }

    int fault() {
        return faultPlace;
    }

    // ---- acts

    private void save() {
        saved.add(state.copy());
        if (saved.size() > 8) {
            saved.remove(0);
        }
    }

    int push(int queue, long key) {
        Heap heap = heap(queue);
        key(key);
        fit(key >= heap.last && heap.items.size() < 200);
        save();
        return heap.push(key);
    }

    int pop(int queue) {
        Heap heap = heap(queue);
        fit(!heap.waiting().isEmpty());
        save();
        return heap.pop();
    }

    int lessen(int queue, int item, long key) {
        Heap heap = heap(queue);
        came(heap, item);
        key(key);
        fit(heap.copy().lessen(item, key) != -2);
        save();
        return heap.lessen(item, key);
    }

    int drop(int queue, int item) {
        Heap heap = heap(queue);
        came(heap, item);
        fit(heap.holds(item));
        save();
        return heap.drop(item);
    }

    int pour(int queue) {
        Heap heap = heap(queue);
        Heap other = state.heaps[1 - queue];
        List<Integer> poured = other.waiting();
        fit(heap.items.size() + poured.size() <= 200);
        for (int item : poured) {
            fit(other.items.get(item).key >= heap.last);
        }
        save();
        for (int item : poured) {
            heap.push(other.items.get(item).key);
            other.drop(item);
        }
        return poured.size();
    }

    int digits(int bits) {
        within(bits, 1, 4);
        fit(state.heaps[0].waiting().isEmpty() && state.heaps[1].waiting().isEmpty());
        save();
        int old = state.bits;
        state.bits = bits;
        state.heaps[0].bits = bits;
        state.heaps[1].bits = bits;
        return old;
    }

    int clear(int queue) {
        Heap heap = heap(queue);
        save();
        state.heaps[queue] = new Heap(state.bits, 200);
        return heap.waiting().size();
    }

    int undo() {
        if (saved.isEmpty()) {
            return -1;
        }
        state = saved.remove(saved.size() - 1);
        return saved.size();
    }

    // ---- asked

    int told(int what) {
        within(what, 0, 6);
        return List.of(state.bits, planSteps, edges.size(), events.size(), rules.size(), tape.size(),
                saved.size()).get(what);
    }

    long queue(int queue, int what) {
        Heap heap = heap(queue);
        within(what, 0, 6);
        List<Integer> waiting = heap.waiting();
        return switch (what) {
            case 0 -> heap.last;
            case 1 -> waiting.size();
            case 2 -> heap.items.size();
            case 3 -> heap.moves();
            case 4 -> heap.leastKey();
            case 5 -> heap.buckets.stream().filter(b -> !b.isEmpty()).count();
            default -> waiting.stream().mapToLong(i -> heap.items.get(i).bucket).sum();
        };
    }

    long item(int queue, int number, int what) {
        Heap heap = heap(queue);
        Item item = came(heap, number);
        within(what, 0, 4);
        boolean waits = item.fate == 0;
        return switch (what) {
            case 0 -> item.key;
            case 1 -> waits ? item.bucket : -1;
            case 2 -> waits ? heap.buckets.get(item.bucket).indexOf(number) : -1;
            case 3 -> item.moves;
            default -> item.fate;
        };
    }

    int bucket(int queue, int bucket) {
        Heap heap = heap(queue);
        return bucket < 0 || bucket >= heap.buckets.size() ? 0 : heap.buckets.get(bucket).size();
    }

    int order(int queue, int k) {
        Heap heap = heap(queue);
        element(k >= 0 && k < heap.waiting().size());
        Heap copy = heap.copy();
        int item = -1;
        for (int i = 0; i <= k; i++) {
            item = copy.pop();
        }
        return item;
    }

    // ---- plans

    final class PlanRun {
        final Heap heap;
        int done = 0;
        int refusedSteps = 0;
        List<Integer> taken = new ArrayList<>();

        PlanRun(int bits) {
            heap = new Heap(bits, 200);
            go(plan);
        }

        void go(List<Step> steps) {
            for (Step step : steps) {
                if (done >= 400) {
                    return;
                }
                if (step.word.equals("again")) {
                    for (long i = 0; i < step.first && done < 400; i++) {
                        go(step.inner);
                    }
                } else {
                    done++;
                    int answer = one(step);
                    if (answer == -2) {
                        refusedSteps++;
                    }
                }
            }
        }

        int one(Step step) {
            switch (step.word) {
                case "push":
                    return heap.push(step.second);
                case "less":
                    return heap.lessen((int) step.first, step.second);
                case "drop":
                    return heap.drop((int) step.first);
                default:
                    int item = heap.pop();
                    if (item >= 0) {
                        taken.add(item);
                    }
                    return item;
            }
        }
    }

    long run(int bits, int what) {
        within(bits, 1, 4);
        within(what, 0, 7);
        PlanRun run = new PlanRun(bits);
        return switch (what) {
            case 0 -> run.done;
            case 1 -> run.refusedSteps;
            case 2 -> run.taken.size();
            case 3 -> run.heap.waiting().size();
            case 4 -> run.heap.moves();
            case 5 -> run.heap.items.stream().mapToLong(i -> i.moves).max().orElse(0);
            case 6 -> run.heap.last;
            default -> run.heap.ever.size();
        };
    }

    long taken(int bits, int k, int what) {
        within(bits, 1, 4);
        within(what, 0, 1);
        PlanRun run = new PlanRun(bits);
        element(k >= 0 && k < run.taken.size());
        int item = run.taken.get(k);
        return what == 0 ? item : run.heap.items.get(item).key;
    }

    int fewest() {
        int best = 4;
        for (int bits = 3; bits >= 1; bits--) {
            if (new PlanRun(bits).heap.moves() <= new PlanRun(best).heap.moves()) {
                best = bits;
            }
        }
        return best;
    }

    // ---- ways

    final class Ways {
        final Heap heap;
        int[] itemOf = new int[16];
        int[] by = new int[16];
        int[] lessened = new int[16];
        List<Integer> reached = new ArrayList<>();
        long[] far = new long[16];
        int most = 1;

        Ways(int bits, int from) {
            heap = new Heap(bits, 16);
            Arrays.fill(itemOf, -1);
            Arrays.fill(by, -1);
            Arrays.fill(far, -1);
            itemOf[from] = heap.push(0);
            while (!heap.waiting().isEmpty()) {
                int item = heap.pop();
                int node = 0;
                while (itemOf[node] != item) {
                    node++;
                }
                far[node] = heap.last;
                reached.add(node);
                for (long[] edge : edges) {
                    if (edge[0] == node && !reached.contains((int) edge[1])) {
                        follow(node, (int) edge[1], heap.last + edge[2]);
                    }
                }
                most = Math.max(most, heap.waiting().size());
            }
        }

        void follow(int node, int to, long distance) {
            if (itemOf[to] == -1) {
                itemOf[to] = heap.push(distance);
                by[to] = node;
            } else if (distance < heap.items.get(itemOf[to]).key) {
                heap.lessen(itemOf[to], distance);
                lessened[to]++;
                by[to] = node;
            }
        }

        int edgesTo(int to) {
            return far[to] == -1 ? -1 : by[to] == -1 ? 0 : 1 + edgesTo(by[to]);
        }

        int nodesTo(int to) {
            return far[to] == -1 ? 0 : 1 << to | (by[to] == -1 ? 0 : nodesTo(by[to]));
        }
    }

    long way(int bits, int from, int to, int what) {
        within(bits, 1, 4);
        within(what, 0, 5);
        element(from >= 0 && from <= 15 && to >= 0 && to <= 15);
        Ways ways = new Ways(bits, from);
        return switch (what) {
            case 0 -> ways.far[to];
            case 1 -> ways.by[to];
            case 2 -> ways.reached.indexOf(to);
            case 3 -> ways.edgesTo(to);
            case 4 -> ways.itemOf[to] == -1 ? 0 : ways.heap.items.get(ways.itemOf[to]).moves;
            default -> ways.lessened[to];
        };
    }

    long ways(int bits, int from, int what) {
        within(bits, 1, 4);
        within(what, 0, 4);
        element(from >= 0 && from <= 15);
        Ways ways = new Ways(bits, from);
        return switch (what) {
            case 0 -> ways.reached.size();
            case 1 -> ways.heap.moves();
            case 2 -> Arrays.stream(ways.far).max().getAsLong();
            case 3 -> Arrays.stream(ways.lessened).sum();
            default -> ways.most;
        };
    }

    int nodes(int bits, int from, int to) {
        within(bits, 1, 4);
        element(from >= 0 && from <= 15 && to >= 0 && to <= 15);
        return new Ways(bits, from).nodesTo(to);
    }

    // ---- events

    final class Replay {
        final Heap heap;
        List<Long> letters = new ArrayList<>();
        List<long[]> happened = new ArrayList<>();

        Replay(int bits, long till) {
            heap = new Heap(bits, 300);
            for (long[] event : events) {
                bring(event[0], event[1]);
            }
            while (!heap.waiting().isEmpty() && heap.leastKey() <= till && happened.size() < 200) {
                long letter = letters.get(heap.pop());
                happened.add(new long[] {letter, heap.last});
                for (long[] rule : rules) {
                    if (rule[0] == letter) {
                        bring(rule[2], heap.last + rule[1]);
                    }
                }
            }
        }

        void bring(long letter, long at) {
            if (heap.items.size() < 300) {
                heap.push(at);
                letters.add(letter);
            }
        }
    }

    long replay(int bits, long till, int what) {
        within(bits, 1, 4);
        key(till);
        within(what, 0, 11);
        Replay replay = new Replay(bits, till);
        return switch (what) {
            case 0 -> replay.happened.size();
            case 1 -> replay.heap.last;
            case 2 -> replay.heap.waiting().size();
            case 3 -> replay.heap.moves();
            default -> replay.happened.stream().filter(h -> h[0] == what - 4).count();
        };
    }

    long happened(int bits, long till, int k, int what) {
        within(bits, 1, 4);
        key(till);
        within(what, 0, 1);
        Replay replay = new Replay(bits, till);
        element(k >= 0 && k < replay.happened.size());
        return replay.happened.get(k)[what];
    }

    long print() {
        long sum = 0;
        for (Heap heap : state.heaps) {
            sum = 31 * sum + heap.last;
            for (Item item : heap.items) {
                sum = 31 * (31 * sum + item.key) + item.moves;
            }
        }
        return sum;
    }

    int status(int what) {
        return what >= 0 && what <= 3 ? refused[what] : -1;
    }
}
