import java.util.ArrayList;
import java.util.List;
import java.util.function.Supplier;

/**
 * What the tests of bounds share: calls on objects that are made anew for each one, and all that can
 * be seen of an object. A look takes some 180 calls, so that an object stays below its 512.
 */
final class Look {
    /** A call on an object. */
    interface Use {
        long on(DueQueue x);
    }

    private static final long TOP = 1_099_511_627_775L;
    private static final int NEAR = 8;
    private static final String[] REASONS = {Check.INDEX, Check.ARGUMENT, Check.STATE, Check.ELEMENT};

    private final Check check;

    Look(Check check) {
        this.check = check;
    }

    /** The call throws this very exception, which is counted once; all else is as without the call. */
    void refused(String what, Supplier<DueQueue> make, String exception, Use call) {
        DueQueue without = make.get();
        DueQueue with = make.get();
        check.throwing(what, exception, () -> call.on(with));
        for (int reason = 0; reason < REASONS.length; reason++) {
            int more = REASONS[reason].equals(exception) ? 1 : 0;
            check.due(what + ": status " + reason, without.status(reason) + more, with.status(reason));
        }
        check.same(what + " changes nothing", all(without), all(with));
    }

    /** The call answers this, and none is counted as refused by it. */
    void answers(String what, Supplier<DueQueue> make, long due, Use call) {
        DueQueue without = make.get();
        DueQueue with = make.get();
        check.same(what, Long.toString(due), Check.outcome(() -> call.on(with)));
        for (int reason = 0; reason < REASONS.length; reason++) {
            check.due(what + ": status " + reason, without.status(reason), with.status(reason));
        }
    }

    /** The call answers this, and all is as without it. */
    void asked(String what, Supplier<DueQueue> make, long due, Use call) {
        answers(what, make, due, call);
        DueQueue with = make.get();
        call.on(with);
        check.same(what + " leaves all as it was", all(make.get()), all(with));
    }

    /** All that can be seen; behind it the object is used up: acts and tape are looked at, too. */
    static String all(DueQueue x) {
        List<Long> seen = new ArrayList<>();
        for (int what = 0; what <= 6; what++) {
            seen.add((long) x.told(what));
        }
        seen.add((long) x.fault());
        queues(x, seen);
        texts(x, seen);
        acts(x, seen);
        tape(x, seen);
        return seen.toString();
    }

    private static void queues(DueQueue x, List<Long> seen) {
        seen.add(x.print());
        for (int queue = 0; queue <= 1; queue++) {
            for (int what = 0; what <= 6; what++) {
                seen.add(x.queue(queue, what));
            }
            int came = (int) x.queue(queue, 2);
            for (int item = 0; item < came; item++) {
                if (item < NEAR || item == came - 1) {
                    seen.add(x.item(queue, item, 1));
                    seen.add(x.item(queue, item, 2));
                    seen.add(x.item(queue, item, 4));
                }
            }
            int waits = (int) x.queue(queue, 1);
            for (int k = 0; k < Math.min(waits, NEAR); k++) {
                seen.add((long) x.order(queue, k));
            }
        }
    }

    private static void texts(DueQueue x, List<Long> seen) {
        for (int what = 0; what <= 7; what++) {
            seen.add(x.run(1, what));
            seen.add(x.run(4, what));
        }
        for (int what = 0; what <= 4; what++) {
            seen.add(x.ways(1, 0, what));
        }
        for (int what = 0; what <= 11; what++) {
            seen.add(x.replay(1, TOP, what));
        }
    }

    private static void acts(DueQueue x, List<Long> seen) {
        for (int turn = 0; turn <= 8; turn++) {
            seen.add((long) x.undo());
            seen.add(x.print());
            seen.add(x.queue(0, 1));
            seen.add(x.queue(1, 1));
            seen.add((long) x.told(0));
        }
    }

    private static void tape(DueQueue x, List<Long> seen) {
        seen.add((long) x.plan(Math.min(300, x.told(5))));
        seen.add((long) x.fault());
        seen.add(x.run(1, 6));
    }
}
