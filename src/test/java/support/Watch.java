import java.util.LinkedHashMap;
import java.util.Map;
import java.util.function.Supplier;
import java.util.function.ToLongFunction;

/**
 * Makes a call on a cellar and compares all that can be seen of it then with a twin on which it was
 * not made: a call changes what the document says of it, and nothing else.
 */
final class Watch {
    private static final int[] REFUSALS = {-1, -2, -3, -5, -6};

    private final Due due;

    Watch(Due due) {
        this.due = due;
    }

    /** The call is REFUSED by this; what changes is told by names as in seen(), each with its new value. */
    void refused(String call, Supplier<SoleraCellar> made, ToLongFunction<SoleraCellar> answer, int by, Object... changes) {
        SoleraCellar x = made.get();
        SoleraCellar twin = made.get();
        // So that the status is 0 ahead of it, by a call that changes nothing.
        x.force(x.count(12));
        twin.force(twin.count(12));
        due.is(call, answer.applyAsLong(x), by);
        due.is("status() behind " + call, x.status(), by);
        for (int i = 0; i < REFUSALS.length; i++) {
            int more = REFUSALS[i] == by ? 1 : 0;
            due.is("count(" + (7 + i) + ") behind " + call, x.count(7 + i), twin.count(7 + i) + more);
        }
        compare(call, x, twin, changes);
        compareUndone(call, x, twin);
    }

    /** The call is not REFUSED and leaves what can be undone. */
    void accepted(String call, Supplier<SoleraCellar> made, ToLongFunction<SoleraCellar> answer, long want, Object... changes) {
        SoleraCellar x = madeRefused(made);
        SoleraCellar twin = madeRefused(made);
        due.is(call, answer.applyAsLong(x), want);
        due.is("status() behind " + call, x.status(), 0);
        compareRefusals(call, x, twin);
        compare(call, x, twin, changes);
        if (x.count(5) == twin.count(5)) {
            for (int i = 0; i < 17; i++) {
                due.is("undo() behind " + call, x.undo(), twin.undo());
            }
        }
    }

    /** The call asks something: it changes nothing, the status neither, whatever it answers. */
    void asked(String call, Supplier<SoleraCellar> made, ToLongFunction<SoleraCellar> answer, long want, Object... changes) {
        SoleraCellar x = madeRefused(made);
        SoleraCellar twin = madeRefused(made);
        due.is(call, answer.applyAsLong(x), want);
        due.is("status() behind " + call, x.status(), -1);
        compareRefusals(call, x, twin);
        compare(call, x, twin, changes);
        compareUndone(call, x, twin);
    }

    private static SoleraCellar madeRefused(Supplier<SoleraCellar> made) {
        SoleraCellar x = made.get();
        x.image(9);
        return x;
    }

    private void compareRefusals(String call, SoleraCellar x, SoleraCellar twin) {
        for (int what = 7; what <= 11; what++) {
            due.is("count(" + what + ") behind " + call, x.count(what), twin.count(what));
        }
    }

    private void compare(String call, SoleraCellar x, SoleraCellar twin, Object... changes) {
        Map<String, Long> want = seen(twin);
        for (int i = 0; i < changes.length; i += 2) {
            want.put((String) changes[i], ((Number) changes[i + 1]).longValue());
        }
        Map<String, Long> got = seen(x);
        for (String name : want.keySet()) {
            due.is(name + " behind " + call, got.getOrDefault(name, -99L), want.get(name));
        }
        for (String name : got.keySet()) {
            due.isTrue(name + " behind " + call + " is known", want.containsKey(name));
        }
    }

    private void compareUndone(String call, SoleraCellar x, SoleraCellar twin) {
        for (int i = 0; i < 17; i++) {
            due.is("undo() behind " + call, x.undo(), twin.undo());
            due.is("BOTTLED, YEAR undone behind " + call, x.count(1) * 1000L + x.count(13), twin.count(1) * 1000L + twin.count(13));
            for (int cask = 0; cask < 3; cask++) {
                due.is("DROPS undone behind " + call, x.of(cask, 2), twin.of(cask, 2));
            }
        }
    }

    /** What the cellar answers to calls that change nothing, by their names. */
    private static Map<String, Long> seen(SoleraCellar x) {
        Map<String, Long> seen = new LinkedHashMap<>();
        for (int what = 0; what < 17; what++) {
            if (what < 7 || what > 11) {
                seen.put("count(" + what + ")", (long) x.count(what));
            }
        }
        seen.put("fault()", (long) x.fault());
        seen.put("stopped()", (long) x.stopped());
        seen.put("leaks()", (long) x.leaks());
        seen.put("canBe()", (long) x.canBe());
        for (int cask = 0; cask < 8; cask++) {
            seen.put("drawn(" + cask + ", 0)", (long) x.drawn(cask, 0));
        }
        for (int plan = 0; plan < x.count(4); plan++) {
            seen.put("yields(" + plan + ", 2)", (long) x.yields(plan, 2));
        }
        for (int law = 0; law < x.count(3); law++) {
            seen.put("compare(" + law + ", 0)", (long) x.compare(law, 0));
        }
        for (int cask = 0; cask < x.count(0); cask++) {
            for (int what = 0; what < 8; what++) {
                seen.put("of(" + cask + ", " + what + ")", (long) x.of(cask, what));
            }
        }
        return seen;
    }
}
