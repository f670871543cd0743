/** Promises 9 to 13: judge, done, behind, lies, then. */
public final class YearsTest {
    private static final Check CHECK = new Check();

    public static void main(String[] args) {
        reasons();
        refusals();
        doneAndBehind();
        time();
        meetings();
        CHECK.finish();
    }

    private static void due(String call, long got, long want) {
        CHECK.due(call, got, want);
    }

    private static OxenKneel atMidnight() {
        OxenKneel x = new OxenKneel();
        x.clock(358, 0, 5);
        return x;
    }

    private static void judged(OxenKneel x, String text, int act, int why) {
        Check.write(x, text);
        due("judge(0) of " + text, x.judge(0), act);
        due("judge(1) of " + text, x.judge(1), why);
    }

    private static void reasons() {
        OxenKneel x = atMidnight();
        judged(x, "", -6, -6);
        judged(x, "A(A(", 1, 1);
        judged(x, "A(h1A(", 2, 1);
        judged(x, "A)", 0, 1);
        judged(x, "h1A)", 1, 1);
        judged(x, "A>", 0, 1);
        judged(x, "A<", 0, 1);
        judged(x, "A$9", 0, 1);
        judged(x, "A%", 0, 1);
        judged(x, "h1A(", 1, 2);
        judged(x, "d1A(", 1, 2);
        judged(x, "A(h1A)", 2, 2);
        judged(x, "A(A<", 1, 4);
        judged(x, "A(" + "A>".repeat(10), -6, -6);
        judged(x, "A(" + "A>".repeat(11), 11, 4);
        judged(x, "A(A$9A$1", -6, -6);
        judged(x, "A(A$9A$2", 2, 5);
        judged(x, "A(A%", 1, 6);
        judged(x, "A(A$1B(B>B%", 4, 6);
        judged(x, "A(A)A(", -6, -6);
        x.shift(0);
        judged(x, "A(", 0, 3);
        judged(x, "h1A(", 1, 2);
        x.shift(1);
        judged(x, "A(A>", 1, 4);
        x.clock(358, 0, 99);
        judged(x, "k", 0, 7);
        judged(x, "d6", -6, -6);
        judged(x, "d7", 0, 7);
        x.clock(364, 14, 99);
        judged(x, "h9", -6, -6);
        x.clock(364, 15, 99);
        judged(x, "h9", 0, 7);
        judged(x, "h8h1", 1, 7);
    }

    private static void refusals() {
        OxenKneel x = atMidnight();
        for (String text : new String[] {"A", "A)"}) {
            Check.write(x, text);
            due("judge(-1)", x.judge(-1), OxenKneel.OUTSIDE);
            due("judge(2)", x.judge(2), OxenKneel.OUTSIDE);
            due("done() of " + text, x.done(), OxenKneel.NO);
            due("behind(-1, 2)", x.behind(-1, 2), OxenKneel.UNKNOWN);
            due("behind(6, 0)", x.behind(6, 0), OxenKneel.UNKNOWN);
            due("behind(0, -1)", x.behind(0, -1), OxenKneel.OUTSIDE);
            due("behind(5, 2)", x.behind(5, 2), OxenKneel.OUTSIDE);
            due("behind(0, 0)", x.behind(0, 0), OxenKneel.NO);
            due("behind(5, 1)", x.behind(5, 1), OxenKneel.NO);
            due("lies(-1)", x.lies(-1), OxenKneel.OUTSIDE);
            due("lies(30)", x.lies(30), OxenKneel.OUTSIDE);
            due("lies(29)", x.lies(29), OxenKneel.NO);
            due("then(-1)", x.then(-1), OxenKneel.OUTSIDE);
            due("then(8)", x.then(8), OxenKneel.OUTSIDE);
            for (int what = 0; what < 8; what++) {
                due("then(" + what + ") of " + text, x.then(what), OxenKneel.NO);
            }
            due("the pad stays", x.told(0), text.length());
        }
        Check.write(x, "A");
        due("judge of a fault", x.judge(0), OxenKneel.NO);
        due("judge of a fault", x.judge(1), OxenKneel.NO);
    }

    private static void doneAndBehind() {
        OxenKneel x = atMidnight();
        Check.write(x, "A(A>A$4B(B>B%");
        due("behind(0, 0)", x.behind(0, 0), 1);
        due("behind(0, 1)", x.behind(0, 1), 6);
        due("behind(1, 1)", x.behind(1, 1), 14);
        due("behind(2, 0)", x.behind(2, 0), OxenKneel.NONE);
        due("lies(1)", x.lies(1), 0);
        due("then(4)", x.then(4), 3);
        due("nothing is done", x.told(7), 0);
        due("done()", x.done(), 6);
        due("told(7)", x.told(7), 3);
        due("told(11)", x.told(11), 1);
        due("told(20)", x.told(20), 6);
        due("told(21)", x.told(21), 14);
        due("told(0)", x.told(0), 0);
        due("done() of nothing", x.done(), 0);
        x.person(1, 99);
        Check.write(x, "A$6B%B$9B$9B<B$9");
        due("lies(1)", x.lies(1), 18);
        due("lies(0)", x.lies(0), 9);
        due("lies(11), where no place is", x.lies(11), 0);
        due("then(5)", x.then(5), 27);
        due("coin above 99 may be had", x.behind(1, 1), 78);
    }

    private static void timeBehind(OxenKneel x, String text, int date, int hour, int year) {
        Check.write(x, text);
        due("then(0) of " + text, x.then(0), date);
        due("then(1) of " + text, x.then(1), (date + x.told(4)) % 365);
        due("then(2) of " + text, x.then(2), hour);
        due("then(3) of " + text, x.then(3), year);
    }

    private static void time() {
        OxenKneel x = new OxenKneel();
        x.clock(357, 23, 7);
        timeBehind(x, "h1", 358, 0, 7);
        timeBehind(x, "k", 358, 0, 7);
        timeBehind(x, "h1k", 358, 0, 8);
        timeBehind(x, "h2k", 358, 0, 8);
        timeBehind(x, "d1k", 358, 0, 8);
        timeBehind(x, "d7", 364, 23, 7);
        timeBehind(x, "d8", 0, 23, 8);
        timeBehind(x, "d7h1", 0, 0, 8);
        timeBehind(x, "d9h9", 2, 8, 8);
        x.kneel(0);
        timeBehind(x, "k", 0, 0, 8);
        timeBehind(x, "kkk", 0, 0, 10);
        x.shift(30);
        x.clock(335, 0, 0);
        timeBehind(x, "", 335, 0, 0);
        due("365 by the new count is 0", x.then(1), 0);
    }

    private static void met(OxenKneel x, String text, int act, int two) {
        Check.write(x, text);
        due("then(6) of " + text, x.then(6), act);
        due("then(7) of " + text, x.then(7), two);
    }

    private static void meetings() {
        OxenKneel x = atMidnight();
        met(x, "", -6, -6);
        met(x, "A(B(", 1, 1);
        met(x, "B(A(", 1, 1);
        met(x, "F(E(", 1, 45);
        met(x, "A(A)B(", -6, -6);
        met(x, "A(A>B(", -6, -6);
        met(x, "A(A>B(B>", 3, 1);
        met(x, "A(A>B(A<", 3, 1);
        met(x, "h1", -6, -6);
        Check.write(x, "C(D(B(B>");
        due("done()", x.done(), 4);
        met(x, "", -6, -6);
        met(x, "C$1C%h1", -6, -6);
        met(x, "A(", 0, 2);
        met(x, "F(", 0, 25);
        met(x, "C>", 0, 12);
        met(x, "D>C>", 0, 13);
        met(x, "D>D<", 0, 13);
        met(x, "C)C(", 1, 23);
        met(x, "B>D>D<", 2, 23);
    }
}
