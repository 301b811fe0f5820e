import java.util.Arrays;
import java.util.NoSuchElementException;

/** Queues of due times that never go back; plans and charts that are gone through by them. */
public final class DueQueue {
    public static final int NONE = -1;

    private static final long MOST_KEY = 1_099_511_627_775L;
    private static final int KEY_BITS = 40;
    private static final int MOST_DIGIT_BITS = 4;
    private static final int HAND_ITEMS = 200;

    private static final int TAPE_BYTES = 500;
    private static final int PLAN_BYTES = 300;
    private static final int CHART_BYTES = 500;
    private static final int CANNOT_STAND = 1;
    private static final int NO_SUCH_NUMBER = 2;
    private static final int TOO_MANY = 3;
    private static final int MOST_TOLD_KEY = 1_000_000_000;

    private static final int PUSH = 0;
    private static final int POP = 1;
    private static final int LESSEN = 2;
    private static final int DROP = 3;
    private static final int POUR = 4;
    private static final int DIGITS = 5;
    private static final int CLEAR = 6;

    private static final int PLAN_ITEMS = 200;
    private static final int PLAN_STEPS = 400;
    private static final int MOST_TIMES = 50;
    private static final int MOST_NESTED = 3;

    private static final int NODES = 16;
    private static final int MOST_EDGES = 60;
    private static final int MOST_EVENTS = 12;
    private static final int MOST_RULES = 16;
    private static final int LETTERS = 8;
    private static final int REPLAY_ITEMS = 300;
    private static final int REPLAY_HAPPENINGS = 200;

    private final Hand hand = new Hand();
    private final Acts acts = new Acts();
    private final Tape tape = new Tape();
    private Plan currentPlan = new Plan();
    private Plan sparePlan = new Plan();
    private Chart currentChart = new Chart();
    private Chart spareChart = new Chart();
    private final Buckets scratch = new Buckets(REPLAY_ITEMS);
    private final PlanRun planRun = new PlanRun(scratch);
    private final Search search = new Search(scratch);
    private final Playback playback = new Playback(scratch);
    private int refusedIndexes;
    private int refusedArguments;
    private int refusedStates;
    private int refusedElements;

    public DueQueue() {
    }

    public int feed(int a, int b, int c, int d, int e) {
        if (!tape.hasRoom()) {
            return NONE;
        }
        tape.append(a);
        tape.append(b);
        tape.append(c);
        tape.append(d);
        return tape.append(e);
    }

    public int plan(int n) throws IllegalArgumentException {
        needArgument(n >= 0 && n <= tape.fed && n <= PLAN_BYTES);
        tape.open(n);
        sparePlan.read(tape);
        tape.close();
        if (tape.fault != 0) {
            return tape.fault - 10;
        }
        Plan old = currentPlan;
        currentPlan = sparePlan;
        sparePlan = old;
        return currentPlan.written;
    }

    public int chart(int n) throws IllegalArgumentException {
        needArgument(n >= 0 && n <= tape.fed && n <= CHART_BYTES);
        tape.open(n);
        spareChart.read(tape);
        tape.close();
        if (tape.fault != 0) {
            return tape.fault - 10;
        }
        Chart old = currentChart;
        currentChart = spareChart;
        spareChart = old;
        return currentChart.countLines();
    }

    public int fault() {
        return tape.faultPlace;
    }

    public int push(int queue, long key)
            throws IndexOutOfBoundsException, IllegalArgumentException, IllegalStateException {
        needQueue(queue);
        needArgument(isKey(key));
        needState(hand.of(queue).admits(key));
        return act(PUSH, queue, 0, key);
    }

    public int pop(int queue) throws IndexOutOfBoundsException, IllegalStateException {
        needQueue(queue);
        needState(hand.of(queue).waits > 0);
        return act(POP, queue, 0, 0);
    }

    public int lessen(int queue, int item, long key)
            throws IndexOutOfBoundsException, NoSuchElementException, IllegalArgumentException,
            IllegalStateException {
        needQueue(queue);
        needElement(hand.of(queue).knows(item));
        needArgument(isKey(key));
        needState(hand.of(queue).canLower(item, key));
        return act(LESSEN, queue, item, key);
    }

    public int drop(int queue, int item)
            throws IndexOutOfBoundsException, NoSuchElementException, IllegalStateException {
        needQueue(queue);
        needElement(hand.of(queue).knows(item));
        needState(hand.of(queue).holds(item));
        return act(DROP, queue, item, 0);
    }

    public int pour(int queue) throws IndexOutOfBoundsException, IllegalStateException {
        needQueue(queue);
        needState(hand.of(queue).admitsAll(hand.of(1 - queue)));
        return act(POUR, queue, 0, 0);
    }

    public int digits(int bits) throws IllegalArgumentException, IllegalStateException {
        needArgument(isDigitBits(bits));
        needState(hand.of(0).waits == 0 && hand.of(1).waits == 0);
        // An act is kept in four numbers: here the bits stand where others have their item.
        return act(DIGITS, 0, bits, 0);
    }

    public int clear(int queue) throws IndexOutOfBoundsException {
        needQueue(queue);
        return act(CLEAR, queue, 0, 0);
    }

    public int undo() {
        return acts.takeBack(hand);
    }

    public int told(int what) throws IllegalArgumentException {
        needArgument(what >= 0 && what <= 6);
        switch (what) {
            case 0: return hand.of(0).bits;
            case 1: return currentPlan.written;
            case 2: return currentChart.edges;
            case 3: return currentChart.events;
            case 4: return currentChart.rules;
            case 5: return tape.fed;
            default: return acts.kept;
        }
    }

    public long queue(int queue, int what) throws IndexOutOfBoundsException, IllegalArgumentException {
        needQueue(queue);
        needArgument(what >= 0 && what <= 6);
        Buckets one = hand.of(queue);
        switch (what) {
            case 0: return one.last;
            case 1: return one.waits;
            case 2: return one.came;
            case 3: return one.allMoves();
            case 4: return one.leastKey();
            case 5: return one.filledBuckets();
            default: return one.bucketSum();
        }
    }

    public long item(int queue, int item, int what)
            throws IndexOutOfBoundsException, NoSuchElementException, IllegalArgumentException {
        needQueue(queue);
        Buckets one = hand.of(queue);
        needElement(one.knows(item));
        needArgument(what >= 0 && what <= 4);
        switch (what) {
            case 0: return one.keys[item];
            case 1: return one.holds(item) ? one.where[item] : NONE;
            case 2: return one.placeInBucket(item);
            case 3: return one.moves[item];
            default: return one.fate(item);
        }
    }

    public int bucket(int queue, int bucket) throws IndexOutOfBoundsException {
        needQueue(queue);
        return hand.of(queue).countIn(bucket);
    }

    public int order(int queue, int k) throws IndexOutOfBoundsException, NoSuchElementException {
        needQueue(queue);
        Buckets one = hand.of(queue);
        needElement(k >= 0 && k < one.waits);
        scratch.copy(one);
        for (int i = 0; i < k; i++) {
            scratch.takeNext();
        }
        return scratch.takeNext();
    }

    public long run(int bits, int what) throws IllegalArgumentException {
        needArgument(isDigitBits(bits) && what >= 0 && what <= 7);
        planRun.go(currentPlan, bits);
        switch (what) {
            case 0: return currentPlan.steps;
            case 1: return planRun.refused;
            case 2: return planRun.takenOnes;
            case 3: return scratch.waits;
            case 4: return scratch.allMoves();
            case 5: return scratch.mostMoves();
            case 6: return scratch.last;
            default: return scratch.bucketsEverFilled();
        }
    }

    public long taken(int bits, int k, int what) throws IllegalArgumentException, NoSuchElementException {
        needArgument(isDigitBits(bits) && (what == 0 || what == 1));
        planRun.go(currentPlan, bits);
        needElement(k >= 0 && k < planRun.takenOnes);
        int item = planRun.takenItems[k];
        return what == 0 ? item : scratch.keys[item];
    }

    public int fewest() {
        int best = 1;
        long fewestMoves = movesOfRun(1);
        for (int bits = 2; bits <= MOST_DIGIT_BITS; bits++) {
            long moves = movesOfRun(bits);
            if (moves < fewestMoves) {
                best = bits;
                fewestMoves = moves;
            }
        }
        return best;
    }

    public long way(int bits, int from, int to, int what)
            throws IllegalArgumentException, NoSuchElementException {
        needArgument(isDigitBits(bits) && what >= 0 && what <= 5);
        needElement(isNode(from) && isNode(to));
        search.go(currentChart, bits, from);
        switch (what) {
            case 0: return search.howFar(to);
            case 1: return search.by[to];
            case 2: return search.rank[to];
            case 3: return search.countEdgesTo(to);
            case 4: return search.movesOf(to);
            default: return search.lessened[to];
        }
    }

    public long ways(int bits, int from, int what) throws IllegalArgumentException, NoSuchElementException {
        needArgument(isDigitBits(bits) && what >= 0 && what <= 4);
        needElement(isNode(from));
        search.go(currentChart, bits, from);
        switch (what) {
            case 0: return search.reached;
            case 1: return scratch.allMoves();
            // The nodes are reached by rising keys: the last one taken is the farthest.
            case 2: return scratch.last;
            case 3: return search.countLessened();
            default: return search.mostWaiting;
        }
    }

    public int nodes(int bits, int from, int to) throws IllegalArgumentException, NoSuchElementException {
        needArgument(isDigitBits(bits));
        needElement(isNode(from) && isNode(to));
        search.go(currentChart, bits, from);
        return search.nodesTo(to);
    }

    public long replay(int bits, long till, int what) throws IllegalArgumentException {
        needArgument(isDigitBits(bits) && isKey(till) && what >= 0 && what < 4 + LETTERS);
        playback.go(currentChart, bits, till);
        switch (what) {
            case 0: return playback.happenings;
            case 1: return scratch.last;
            case 2: return scratch.waits;
            case 3: return scratch.allMoves();
            default: return playback.counts[what - 4];
        }
    }

    public long happened(int bits, long till, int k, int what)
            throws IllegalArgumentException, NoSuchElementException {
        needArgument(isDigitBits(bits) && isKey(till) && (what == 0 || what == 1));
        playback.go(currentChart, bits, till);
        needElement(k >= 0 && k < playback.happenings);
        int item = playback.items[k];
        return what == 0 ? playback.letters[item] : scratch.keys[item];
    }

    public long print() {
        return hand.of(1).mixInto(hand.of(0).mixInto(0));
    }

    public int status(int what) {
        switch (what) {
            case 0: return refusedIndexes;
            case 1: return refusedArguments;
            case 2: return refusedStates;
            case 3: return refusedElements;
            default: return NONE;
        }
    }

    private int act(int kind, int queue, int item, long key) {
        int answer = hand.apply(kind, queue, item, key);
        acts.keep(kind, queue, item, key);
        return answer;
    }

    private long movesOfRun(int bits) {
        planRun.go(currentPlan, bits);
        return scratch.allMoves();
    }

    private void needQueue(int queue) {
        if (queue != 0 && queue != 1) {
            refusedIndexes++;
            throw new IndexOutOfBoundsException("no such queue");
        }
    }

    private void needArgument(boolean fine) {
        if (!fine) {
            refusedArguments++;
            throw new IllegalArgumentException("no such number here");
        }
    }

    private void needState(boolean fine) {
        if (!fine) {
            refusedStates++;
            throw new IllegalStateException("refused");
        }
    }

    private void needElement(boolean fine) {
        if (!fine) {
            refusedElements++;
            throw new NoSuchElementException("there is none such");
        }
    }

    private static boolean isKey(long key) {
        return key >= 0 && key <= MOST_KEY;
    }

    private static boolean isDigitBits(int bits) {
        return bits >= 1 && bits <= MOST_DIGIT_BITS;
    }

    private static boolean isNode(int node) {
        return node >= 0 && node < NODES;
    }

    /**
     * One queue. All that wait stand in one line, by bucket, and within a bucket as they came to
     * it: so the least bucket is the head of the line, and dealing it out sorts that head anew.
     */
    private static final class Buckets {
        private static final int TAKEN = -1;
        private static final int DROPPED = -2;

        private final long[] keys;
        /** The bucket of an item that waits; else TAKEN or DROPPED. */
        private final int[] where;
        private final int[] moves;
        private final int[] line;
        /** A bit for each bucket that ever had an item: 151 buckets at most. */
        private final long[] filled = new long[3];
        private int limit;
        private int bits = 1;
        private long last;
        private int came;
        private int waits;

        Buckets(int capacity) {
            keys = new long[capacity];
            where = new int[capacity];
            moves = new int[capacity];
            line = new int[capacity];
            limit = capacity;
        }

        void restart(int digitBits, int mostItems) {
            bits = digitBits;
            limit = Math.min(mostItems, keys.length);
            empty();
        }

        int empty() {
            int waited = waits;
            last = 0;
            came = 0;
            waits = 0;
            Arrays.fill(filled, 0L);
            return waited;
        }

        void copy(Buckets other) {
            int items = Math.min(other.came, keys.length);
            System.arraycopy(other.keys, 0, keys, 0, items);
            System.arraycopy(other.where, 0, where, 0, items);
            System.arraycopy(other.moves, 0, moves, 0, items);
            waits = Math.min(other.waits, line.length);
            System.arraycopy(other.line, 0, line, 0, waits);
            System.arraycopy(other.filled, 0, filled, 0, filled.length);
            came = items;
            limit = Math.min(other.limit, keys.length);
            bits = other.bits;
            last = other.last;
        }

        boolean knows(int item) {
            return item >= 0 && item < came;
        }

        boolean holds(int item) {
            return item >= 0 && item < came && where[item] >= 0;
        }

        boolean admits(long key) {
            return key >= last && key <= MOST_KEY && came < limit;
        }

        boolean admitsAll(Buckets other) {
            if (came + other.waits > limit) {
                return false;
            }
            for (int i = 0; i < other.waits; i++) {
                if (other.keys[other.line[i]] < last) {
                    return false;
                }
            }
            return true;
        }

        boolean canLower(int item, long key) {
            return holds(item) && key >= last && key <= keys[item];
        }

        /** The new item; NONE, if it is refused. */
        int add(long key) {
            if (!admits(key)) {
                return NONE;
            }
            int item = came;
            came++;
            keys[item] = key;
            moves[item] = 0;
            settle(item, bucketOf(key), waits);
            waits++;
            return item;
        }

        /** The item that is taken; NONE, if none waits. */
        int takeNext() {
            if (waits == 0) {
                return NONE;
            }
            if (where[line[0]] != 0) {
                dealOut();
            }
            int item = line[0];
            leaveLine(0);
            where[item] = TAKEN;
            return item;
        }

        /** The bucket in which the item is then; NONE, if it is refused. */
        int lower(int item, long key) {
            if (!canLower(item, key)) {
                return NONE;
            }
            keys[item] = key;
            int bucket = bucketOf(key);
            if (bucket != where[item]) {
                leaveLine(indexInLine(item));
                moves[item]++;
                settle(item, bucket, waits);
                waits++;
            }
            return bucket;
        }

        /** How many wait then; NONE, if it is refused. */
        int castOut(int item) {
            if (!holds(item)) {
                return NONE;
            }
            leaveLine(indexInLine(item));
            where[item] = DROPPED;
            return waits;
        }

        int takeAllOf(Buckets other) {
            int poured = other.waits;
            for (int i = 0; i < poured; i++) {
                int item = other.line[i];
                add(other.keys[item]);
                other.where[item] = DROPPED;
            }
            other.waits = 0;
            return poured;
        }

        private int bucketOf(long key) {
            if (key == last) {
                return 0;
            }
            int place = 0;
            for (long unlike = (key ^ last) >>> bits; unlike != 0 && place < KEY_BITS; unlike >>>= bits) {
                place++;
            }
            int topDigit = (1 << bits) - 1;
            int digit = (int) (key >>> (place * bits)) & topDigit;
            return place * topDigit + digit;
        }

        /** Puts an item into the first ones of the line, behind all of its bucket. */
        private void settle(int item, int bucket, int first) {
            int at = first;
            while (at > 0 && where[line[at - 1]] > bucket) {
                line[at] = line[at - 1];
                at--;
            }
            line[at] = item;
            where[item] = bucket;
            filled[bucket >> 6] |= 1L << (bucket & 63);
        }

        private void dealOut() {
            int dealt = countIn(where[line[0]]);
            last = leastKey();
            for (int i = 0; i < dealt; i++) {
                int item = line[i];
                moves[item]++;
                settle(item, bucketOf(keys[item]), i);
            }
        }

        private void leaveLine(int index) {
            if (index < 0 || index >= waits) {
                return;
            }
            waits--;
            System.arraycopy(line, index + 1, line, index, waits - index);
        }

        private int indexInLine(int item) {
            for (int i = 0; i < waits; i++) {
                if (line[i] == item) {
                    return i;
                }
            }
            return NONE;
        }

        int placeInBucket(int item) {
            if (!holds(item)) {
                return NONE;
            }
            int place = 0;
            for (int i = 0; i < waits && line[i] != item; i++) {
                if (where[line[i]] == where[item]) {
                    place++;
                }
            }
            return place;
        }

        int fate(int item) {
            if (!knows(item)) {
                return NONE;
            }
            if (where[item] >= 0) {
                return 0;
            }
            return where[item] == TAKEN ? 1 : 2;
        }

        int countIn(int bucket) {
            int count = 0;
            for (int i = 0; i < waits && where[line[i]] <= bucket; i++) {
                if (where[line[i]] == bucket) {
                    count++;
                }
            }
            return count;
        }

        /** The least key lies in the least bucket: the line is gone through no farther. */
        long leastKey() {
            if (waits == 0) {
                return NONE;
            }
            int bucket = where[line[0]];
            long least = keys[line[0]];
            for (int i = 1; i < waits && where[line[i]] == bucket; i++) {
                least = Math.min(least, keys[line[i]]);
            }
            return least;
        }

        int filledBuckets() {
            int count = 0;
            for (int i = 0; i < waits; i++) {
                if (i == 0 || where[line[i]] != where[line[i - 1]]) {
                    count++;
                }
            }
            return count;
        }

        int bucketSum() {
            int sum = 0;
            for (int i = 0; i < waits; i++) {
                sum += where[line[i]];
            }
            return sum;
        }

        int bucketsEverFilled() {
            return Long.bitCount(filled[0]) + Long.bitCount(filled[1]) + Long.bitCount(filled[2]);
        }

        long allMoves() {
            long sum = 0;
            for (int item = 0; item < came; item++) {
                sum += moves[item];
            }
            return sum;
        }

        int mostMoves() {
            int most = 0;
            for (int item = 0; item < came; item++) {
                most = Math.max(most, moves[item]);
            }
            return most;
        }

        long mixInto(long sum) {
            long mixed = 31 * sum + last;
            for (int item = 0; item < came; item++) {
                mixed = 31 * mixed + keys[item];
                mixed = 31 * mixed + moves[item];
            }
            return mixed;
        }
    }

    /** The two queues that are used by hand. */
    private static final class Hand {
        private final Buckets zero = new Buckets(HAND_ITEMS);
        private final Buckets one = new Buckets(HAND_ITEMS);

        Buckets of(int queue) {
            return queue == 0 ? zero : one;
        }

        void copy(Hand other) {
            zero.copy(other.zero);
            one.copy(other.one);
        }

        int apply(int kind, int queue, int item, long key) {
            Buckets mine = of(queue);
            switch (kind) {
                case PUSH: return mine.add(key);
                case POP: return mine.takeNext();
                case LESSEN: return mine.lower(item, key);
                case DROP: return mine.castOut(item);
                case POUR: return mine.takeAllOf(of(1 - queue));
                case DIGITS: return setBits(item);
                default: return mine.empty();
            }
        }

        private int setBits(int bits) {
            int old = zero.bits;
            zero.bits = bits;
            one.bits = bits;
            return old;
        }
    }

    /**
     * The latest acts, and the queues as they were ahead of them: an act is taken back by going
     * through those before it once more, which needs one copy of the queues and not eight.
     */
    private static final class Acts {
        private static final int MOST = 8;

        private final Hand before = new Hand();
        private final int[] kinds = new int[MOST];
        private final int[] queues = new int[MOST];
        private final int[] items = new int[MOST];
        private final long[] keys = new long[MOST];
        private int kept;

        void keep(int kind, int queue, int item, long key) {
            if (kept == MOST) {
                before.apply(kinds[0], queues[0], items[0], keys[0]);
                forgetOldest();
            }
            kinds[kept] = kind;
            queues[kept] = queue;
            items[kept] = item;
            keys[kept] = key;
            kept++;
        }

        private void forgetOldest() {
            kept--;
            System.arraycopy(kinds, 1, kinds, 0, kept);
            System.arraycopy(queues, 1, queues, 0, kept);
            System.arraycopy(items, 1, items, 0, kept);
            System.arraycopy(keys, 1, keys, 0, kept);
        }

        /** How many are left; NONE, if there was none. */
        int takeBack(Hand hand) {
            if (kept == 0) {
                return NONE;
            }
            kept--;
            hand.copy(before);
            for (int i = 0; i < kept; i++) {
                hand.apply(kinds[i], queues[i], items[i], keys[i]);
            }
            return kept;
        }
    }

    /** The bytes that were fed, and the reading of a text from them up to its first fault. */
    private static final class Tape {
        private final byte[] bytes = new byte[TAPE_BYTES];
        private int fed;
        private int at;
        private int end;
        private int fault;
        private int faultPlace = NONE;

        boolean hasRoom() {
            return fed + 20 <= TAPE_BYTES;
        }

        int append(int number) {
            for (int shift = 24; shift >= 0 && fed < TAPE_BYTES; shift -= 8) {
                bytes[fed] = (byte) (number >>> shift);
                fed++;
            }
            return fed;
        }

        void open(int n) {
            at = 0;
            end = Math.min(n, fed);
            fault = 0;
            faultPlace = NONE;
        }

        void close() {
            fed = 0;
        }

        /** Only the first fault counts: a text is read from left to right. */
        void blame(int which, int place) {
            if (fault == 0) {
                fault = which;
                faultPlace = place;
            }
        }

        boolean goesOn() {
            return fault == 0 && look() != NONE;
        }

        /** The next byte that is no blank; NONE at the end. */
        int look() {
            while (at < end && bytes[at] == ' ') {
                at++;
            }
            return peek(at);
        }

        private int peek(int index) {
            return index >= 0 && index < end ? bytes[index] & 255 : NONE;
        }

        void want(char sign) {
            if (look() == sign) {
                at++;
            } else {
                blame(CANNOT_STAND, at);
            }
        }

        boolean hasWord(String word) {
            look();
            for (int i = 0; i < word.length(); i++) {
                if (peek(at + i) != word.charAt(i)) {
                    return false;
                }
            }
            if (isSmall(peek(at + word.length()))) {
                return false;
            }
            at += word.length();
            return true;
        }

        int number(int most) {
            if (!isDigit(look())) {
                blame(CANNOT_STAND, at);
                return 0;
            }
            int start = at;
            long value = 0;
            for (; at < end && isDigit(peek(at)); at++) {
                // Beyond the bound the value only has to stay there, however many digits follow.
                if (value <= most) {
                    value = 10 * value + (peek(at) - '0');
                }
            }
            if (value > most) {
                blame(NO_SUCH_NUMBER, start);
                return 0;
            }
            return (int) value;
        }

        int letter() {
            int sign = look();
            int next = peek(at + 1);
            if (sign < 'A' || sign >= 'A' + LETTERS || isSmall(next) || isCapital(next)) {
                blame(CANNOT_STAND, at);
                return 0;
            }
            at++;
            return sign - 'A';
        }

        private static boolean isDigit(int sign) {
            return sign >= '0' && sign <= '9';
        }

        private static boolean isSmall(int sign) {
            return sign >= 'a' && sign <= 'z';
        }

        private static boolean isCapital(int sign) {
            return sign >= 'A' && sign <= 'Z';
        }
    }

    /**
     * A plan, its loops unrolled as it is read: which steps are done does not hang on what they
     * find, and no more than 400 of them ever are.
     */
    private static final class Plan {
        private final int[] kinds = new int[PLAN_STEPS];
        private final int[] items = new int[PLAN_STEPS];
        private final int[] keys = new int[PLAN_STEPS];
        private final int[] starts = new int[MOST_NESTED];
        private final int[] times = new int[MOST_NESTED];
        private int steps;
        private int written;
        private int nested;

        void read(Tape in) {
            steps = 0;
            written = 0;
            nested = 0;
            for (int turn = 0; turn < PLAN_BYTES && in.goesOn(); turn++) {
                if (nested > 0 && in.look() == ']') {
                    in.want(']');
                    closeLoop();
                    in.want(';');
                } else {
                    readStep(in);
                }
            }
            if (nested > 0) {
                in.blame(CANNOT_STAND, in.end);
            }
        }

        private void readStep(Tape in) {
            written++;
            if (in.hasWord("again")) {
                openLoop(in);
                return;
            }
            if (in.hasWord("push")) {
                addStep(PUSH, 0, in.number(MOST_TOLD_KEY));
            } else if (in.hasWord("pop")) {
                addStep(POP, 0, 0);
            } else if (in.hasWord("less")) {
                int item = in.number(PLAN_ITEMS - 1);
                addStep(LESSEN, item, in.number(MOST_TOLD_KEY));
            } else if (in.hasWord("drop")) {
                addStep(DROP, in.number(PLAN_ITEMS - 1), 0);
            } else {
                in.blame(CANNOT_STAND, in.at);
            }
            in.want(';');
        }

        private void addStep(int kind, int item, int key) {
            if (steps >= PLAN_STEPS) {
                return;
            }
            kinds[steps] = kind;
            items[steps] = item;
            keys[steps] = key;
            steps++;
        }

        private void openLoop(Tape in) {
            int count = in.number(MOST_TIMES);
            if (in.look() == '[' && nested == MOST_NESTED) {
                in.blame(TOO_MANY, in.at);
                return;
            }
            in.want('[');
            if (nested < MOST_NESTED) {
                starts[nested] = steps;
                times[nested] = count;
                nested++;
            }
        }

        private void closeLoop() {
            if (nested <= 0) {
                return;
            }
            nested--;
            int start = starts[nested];
            int body = steps - start;
            if (times[nested] == 0) {
                steps = start;
            }
            for (int time = 1; time < times[nested] && body > 0; time++) {
                repeatSteps(start, body);
            }
        }

        private void repeatSteps(int start, int body) {
            int room = Math.min(body, PLAN_STEPS - steps);
            System.arraycopy(kinds, start, kinds, steps, room);
            System.arraycopy(items, start, items, steps, room);
            System.arraycopy(keys, start, keys, steps, room);
            steps += room;
        }
    }

    /** A chart: its edges, events and rules, each in the order in which they are told. */
    private static final class Chart {
        private final int[] edgeFrom = new int[MOST_EDGES];
        private final int[] edgeTo = new int[MOST_EDGES];
        private final int[] edgeFar = new int[MOST_EDGES];
        private final int[] eventLetter = new int[MOST_EVENTS];
        private final int[] eventAt = new int[MOST_EVENTS];
        private final int[] ruleOf = new int[MOST_RULES];
        private final int[] ruleLater = new int[MOST_RULES];
        private final int[] ruleBrings = new int[MOST_RULES];
        private int edges;
        private int events;
        private int rules;

        int countLines() {
            return edges + events + rules;
        }

        void read(Tape in) {
            edges = 0;
            events = 0;
            rules = 0;
            for (int turn = 0; turn < CHART_BYTES && in.goesOn(); turn++) {
                readLine(in);
            }
        }

        private void readLine(Tape in) {
            int start = in.at;
            if (in.hasWord("edge")) {
                readEdge(in, start);
            } else if (in.hasWord("event")) {
                readEvent(in, start);
            } else if (in.hasWord("rule")) {
                readRule(in, start);
            } else {
                in.blame(CANNOT_STAND, start);
            }
            in.want(';');
        }

        private void readEdge(Tape in, int start) {
            if (edges == MOST_EDGES) {
                in.blame(TOO_MANY, start);
                return;
            }
            edgeFrom[edges] = in.number(NODES - 1);
            edgeTo[edges] = in.number(NODES - 1);
            edgeFar[edges] = in.number(MOST_TOLD_KEY);
            edges++;
        }

        private void readEvent(Tape in, int start) {
            if (events == MOST_EVENTS) {
                in.blame(TOO_MANY, start);
                return;
            }
            eventLetter[events] = in.letter();
            eventAt[events] = in.number(MOST_TOLD_KEY);
            events++;
        }

        private void readRule(Tape in, int start) {
            if (rules == MOST_RULES) {
                in.blame(TOO_MANY, start);
                return;
            }
            ruleOf[rules] = in.letter();
            ruleLater[rules] = in.number(MOST_TOLD_KEY);
            ruleBrings[rules] = in.letter();
            rules++;
        }
    }

    /** A plan gone through from an empty queue. */
    private static final class PlanRun {
        private final Buckets queue;
        private final int[] takenItems = new int[PLAN_ITEMS];
        private int takenOnes;
        private int refused;

        PlanRun(Buckets queue) {
            this.queue = queue;
        }

        void go(Plan plan, int bits) {
            queue.restart(bits, PLAN_ITEMS);
            takenOnes = 0;
            refused = 0;
            for (int i = 0; i < plan.steps; i++) {
                if (!isDone(plan.kinds[i], plan.items[i], plan.keys[i])) {
                    refused++;
                }
            }
        }

        private boolean isDone(int kind, int item, int key) {
            switch (kind) {
                case PUSH: return queue.add(key) != NONE;
                case POP: return isTaken(queue.takeNext());
                case LESSEN: return queue.lower(item, key) != NONE;
                default: return queue.castOut(item) != NONE;
            }
        }

        private boolean isTaken(int item) {
            if (item == NONE || takenOnes >= PLAN_ITEMS) {
                return false;
            }
            takenItems[takenOnes] = item;
            takenOnes++;
            return true;
        }
    }

    /** The shortest ways from a node. */
    private static final class Search {
        private final Buckets queue;
        private final int[] itemOf = new int[NODES];
        private final int[] nodeOf = new int[NODES];
        private final int[] by = new int[NODES];
        private final int[] rank = new int[NODES];
        private final int[] lessened = new int[NODES];
        private int reached;
        private int mostWaiting;

        Search(Buckets queue) {
            this.queue = queue;
        }

        void go(Chart chart, int bits, int from) {
            queue.restart(bits, NODES);
            Arrays.fill(itemOf, NONE);
            Arrays.fill(by, NONE);
            Arrays.fill(rank, NONE);
            Arrays.fill(lessened, 0);
            reached = 0;
            comeTo(from, 0);
            mostWaiting = queue.waits;
            for (int turn = 0; turn < NODES && queue.waits > 0; turn++) {
                followEdges(chart, reachNext());
                mostWaiting = Math.max(mostWaiting, queue.waits);
            }
        }

        /** The node that is reached; NONE, if none waits. */
        private int reachNext() {
            int item = queue.takeNext();
            if (item < 0 || item >= NODES) {
                return NONE;
            }
            int node = nodeOf[item];
            rank[node] = reached;
            reached++;
            return node;
        }

        private void comeTo(int node, long far) {
            int item = queue.add(far);
            if (item != NONE) {
                itemOf[node] = item;
                nodeOf[item] = node;
            }
        }

        private void followEdges(Chart chart, int node) {
            for (int edge = 0; edge < chart.edges; edge++) {
                int to = chart.edgeTo[edge];
                if (chart.edgeFrom[edge] == node && rank[to] == NONE) {
                    tryWay(node, to, queue.last + chart.edgeFar[edge]);
                }
            }
        }

        private void tryWay(int node, int to, long far) {
            if (itemOf[to] == NONE) {
                comeTo(to, far);
                by[to] = node;
            } else if (far < queue.keys[itemOf[to]]) {
                queue.lower(itemOf[to], far);
                lessened[to]++;
                by[to] = node;
            }
        }

        long howFar(int to) {
            return rank[to] == NONE ? NONE : queue.keys[itemOf[to]];
        }

        int countEdgesTo(int to) {
            // No node stands twice on a way, so it has one edge less than nodes.
            return rank[to] == NONE ? NONE : Integer.bitCount(nodesTo(to)) - 1;
        }

        int nodesTo(int to) {
            if (rank[to] == NONE) {
                return 0;
            }
            int onTheWay = 0;
            int node = to;
            for (int i = 0; i < NODES && isNode(node); i++) {
                onTheWay |= 1 << node;
                node = by[node];
            }
            return onTheWay;
        }

        int movesOf(int node) {
            return itemOf[node] == NONE ? 0 : queue.moves[itemOf[node]];
        }

        int countLessened() {
            int sum = 0;
            for (int node = 0; node < NODES; node++) {
                sum += lessened[node];
            }
            return sum;
        }
    }

    /** The events of a chart and those that they bring, up to a time. */
    private static final class Playback {
        private final Buckets queue;
        private final int[] letters = new int[REPLAY_ITEMS];
        private final int[] items = new int[REPLAY_HAPPENINGS];
        private final int[] counts = new int[LETTERS];
        private int happenings;

        Playback(Buckets queue) {
            this.queue = queue;
        }

        void go(Chart chart, int bits, long till) {
            queue.restart(bits, REPLAY_ITEMS);
            Arrays.fill(counts, 0);
            happenings = 0;
            for (int event = 0; event < chart.events; event++) {
                bring(chart.eventLetter[event], chart.eventAt[event]);
            }
            for (int turn = 0; turn < REPLAY_HAPPENINGS && isDue(till); turn++) {
                happen(chart, queue.takeNext());
            }
        }

        private boolean isDue(long till) {
            return queue.waits > 0 && queue.leastKey() <= till;
        }

        private void happen(Chart chart, int item) {
            if (item < 0 || item >= REPLAY_ITEMS || happenings >= REPLAY_HAPPENINGS) {
                return;
            }
            items[happenings] = item;
            happenings++;
            counts[letters[item]]++;
            followRules(chart, letters[item]);
        }

        private void followRules(Chart chart, int letter) {
            for (int rule = 0; rule < chart.rules; rule++) {
                if (chart.ruleOf[rule] == letter) {
                    bring(chart.ruleBrings[rule], queue.last + chart.ruleLater[rule]);
                }
            }
        }

        private void bring(int letter, long at) {
            int item = queue.add(at);
            if (item != NONE) {
                letters[item] = letter;
            }
        }
    }
}
