import java.util.ArrayList;
import java.util.List;

/** All that can be learnt of an object by calls, some 300 of them: two that stand alike have the same trace. */
final class Trace {
    /** An object is promised for 512 calls alone, and bringing it to its standing takes up to 100 of them. */
    private static final int MOST_CALLS = 400;

    private final List<String> rows = new ArrayList<>();
    private final OxenKneel x;

    private Trace(OxenKneel x) {
        this.x = x;
    }

    /** The first row in which two objects differ; null if none does. Both are used up by it. */
    static String difference(OxenKneel one, OxenKneel other) {
        List<String> first = of(one);
        List<String> second = of(other);
        for (int i = 0; i < first.size(); i++) {
            if (!first.get(i).equals(second.get(i))) {
                return first.get(i) + ", else " + second.get(i);
            }
        }
        return null;
    }

    private static List<String> of(OxenKneel x) {
        Trace trace = new Trace(x);
        trace.tellAll("at once");
        trace.askOfPad();
        trace.askOfSights("at once");
        trace.askOfYears();
        trace.add("done()", x.done());
        trace.tellAll("behind done()");
        trace.endPadByDigit();
        for (int n = 0; n < 2; n++) {
            trace.add("restore(" + n + ")", x.restore(n));
            trace.tellAll("behind restore(" + n + ")");
            trace.askOfSights("behind restore(" + n + ")");
        }
        if (trace.rows.size() > MOST_CALLS) {
            throw new IllegalStateException("a trace of " + trace.rows.size() + " calls is too long");
        }
        return trace.rows;
    }

    private void add(String call, long answer) {
        rows.add(call + " = " + answer);
    }

    private void tellAll(String when) {
        for (int what = 0; what < 60; what++) {
            boolean isTold = what < 8 || what >= 10 && what < 16 || what >= 20 && what < 26 || what >= 30;
            if (isTold) {
                add("told(" + what + ") " + when, x.told(what));
            }
        }
    }

    private void askOfPad() {
        add("fault()", x.fault());
        add("judge(0)", x.judge(0));
        add("judge(1)", x.judge(1));
        for (int person = 0; person < 6; person++) {
            add("behind(" + person + ", 0)", x.behind(person, 0));
            add("behind(" + person + ", 1)", x.behind(person, 1));
        }
        for (int place = 0; place < 30; place++) {
            add("lies(" + place + ")", x.lies(place));
        }
        for (int what = 0; what < 8; what++) {
            add("then(" + what + ")", x.then(what));
        }
    }

    private void askOfSights(String when) {
        for (int i : new int[] {-1, 0, 1, 9}) {
            add("rounds(" + i + ") " + when, x.rounds(i));
        }
        add("ask(0) " + when, x.ask(0));
        add("ask(1) " + when, x.ask(1));
    }

    private void askOfYears() {
        for (int what = 0; what < 3; what++) {
            add("year(77, 99, " + what + ")", x.year(77, 99, what));
        }
    }

    /** What stands on a pad with a fault is seen when it has been ended. */
    private void endPadByDigit() {
        add("say('1')", x.say('1'));
        add("fault(), by a digit more", x.fault());
        add("judge(0), by a digit more", x.judge(0));
        add("then(5), by a digit more", x.then(5));
        add("done(), by a digit more", x.done());
        add("told(20), by a digit more", x.told(20));
        add("wipe()", x.wipe());
        add("forget()", x.forget());
    }
}
