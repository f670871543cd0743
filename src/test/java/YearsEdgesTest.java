/** Edges of acts and their reasons, of the document's part 2 and of promises 9 to 13, sentence by sentence. */
public final class YearsEdgesTest {
    private static final Edges E = new Edges();
    private static final int[] FAR = {Integer.MIN_VALUE, Integer.MAX_VALUE};

    public static void main(String[] args) {
        withinAlreadyOrNot();
        notKneeling();
        noPlaces();
        noSuchPlace();
        lessCoin();
        nothingLies();
        yearAbove99();
        leastReason();
        steppingOver();
        goingUpAndDown();
        coinLeft();
        coinHad();
        firstAct();
        judgeOutside();
        judgeOfFault();
        done();
        doneRefused();
        behindIsNotDone();
        behindPlace();
        behindCoin();
        behindRefused();
        lies();
        liesRefused();
        thenWithin();
        thenLies();
        firstMeeting();
        whichTwo();
        thenOfNothing();
        thenRefused();
        E.finish();
    }

    /** The oxen kneel now. */
    private static OxenKneel atMidnight() {
        OxenKneel x = new OxenKneel();
        x.clock(358, 0, 7);
        return x;
    }

    private static OxenKneel withDone(String text) {
        OxenKneel x = atMidnight();
        Check.write(x, text);
        x.done();
        return x;
    }

    private static OxenKneel at(int date, int hour, int year) {
        OxenKneel x = new OxenKneel();
        x.clock(date, hour, year);
        return x;
    }

    private static void judged(OxenKneel x, String text, int act, int why) {
        Check.write(x, text);
        E.due("judge(0) of " + text, x.judge(0), act);
        E.due("judge(1) of " + text, x.judge(1), why);
    }

    private static void canBe(OxenKneel x, String text) {
        judged(x, text, OxenKneel.NONE, OxenKneel.NONE);
    }

    // ---- why an act can not be

    private static void withinAlreadyOrNot() {
        E.sentence("1 the PERSON is WITHIN already ((), is not (all others)");
        for (char letter = 'A'; letter <= 'F'; letter++) {
            canBe(atMidnight(), letter + "(");
            judged(withDone(letter + "("), letter + "(", 0, 1);
            canBe(withDone(letter + "("), letter + ")");
            for (String deed : new String[] {")", ">", "<", "$1", "%"}) {
                judged(atMidnight(), letter + deed, 0, 1);
            }
            judged(withDone(letter + "("), letter + ")" + letter + ")", 1, 1);
        }
        judged(withDone("A("), "B>", 0, 1);
        canBe(withDone("A("), "A)A(");
    }

    private static void notKneeling() {
        E.sentence("2 the OXEN do not KNEEL now ((, ))");
        for (int[] time : new int[][] {{357, 0}, {357, 23}, {358, 1}, {358, 23}, {359, 0}}) {
            judged(at(time[0], time[1], 7), "A(", 0, 2);
            OxenKneel x = withDone("A(");
            x.clock(time[0], time[1], 7);
            judged(x, "A)", 0, 2);
        }
        judged(withDone("A("), "h1A)", 1, 2);
        canBe(withDone("A("), "kA)");
        // The other acts need no kneeling.
        canBe(withDone("A("), "h1A>A<A$1A%");
    }

    private static void noPlaces() {
        E.sentence("3 there are no PLACES (()");
        OxenKneel x = atMidnight();
        x.shift(0);
        judged(x, "A(", 0, 3);
        x.shift(1);
        canBe(x, "A(");
    }

    private static void noSuchPlace() {
        E.sentence("4 there is no such PLACE (>, <)");
        OxenKneel one = atMidnight();
        one.shift(1);
        judged(one, "A(A>", 1, 4);
        judged(one, "A(A<", 1, 4);
        OxenKneel two = atMidnight();
        two.shift(2);
        canBe(two, "A(A>A<");
        judged(two, "A(A>A>", 2, 4);
        judged(two, "A(A>A<A<", 3, 4);
        OxenKneel most = atMidnight();
        most.shift(30);
        canBe(most, "A(" + "A>".repeat(29));
        most.done();
        judged(most, "A>", 0, 4);
        canBe(most, "A<".repeat(29));
        most.done();
        judged(most, "A<", 0, 4);
    }

    private static void lessCoin() {
        E.sentence("5 there is less COIN ($)");
        for (int coin = 0; coin <= 10; coin++) {
            OxenKneel x = withDone("A(");
            x.person(0, coin);
            for (int left = 1; left <= 9; left++) {
                boolean isLess = coin < left;
                judged(x, "A$" + left, isLess ? 0 : OxenKneel.NONE, isLess ? 5 : OxenKneel.NONE);
            }
        }
        canBe(withDone("A("), "A$9A$1");
        judged(withDone("A("), "A$9A$2", 1, 5);
        judged(withDone("A("), "A$9A$1A$1", 2, 5);
        canBe(withDone("A("), "A$9A$1A%A$9A$1");
    }

    private static void nothingLies() {
        E.sentence("6 nothing lies there (%)");
        judged(withDone("A("), "A%", 0, 6);
        canBe(withDone("A("), "A$1A%");
        judged(withDone("A("), "A$1A%A%", 2, 6);
        judged(withDone("A(B("), "A$1A>A%", 2, 6);
        judged(withDone("A(B("), "A$1B%A%", 2, 6);
        canBe(withDone("A(B("), "A>A$1B>B%");
    }

    private static void yearAbove99() {
        E.sentence("7 the YEAR would be above 99 (h, d, k)");
        canBe(at(364, 22, 99), "h1");
        judged(at(364, 23, 99), "h1", 0, 7);
        canBe(at(364, 14, 99), "h9");
        judged(at(364, 15, 99), "h9", 0, 7);
        canBe(at(363, 23, 99), "d1");
        judged(at(364, 0, 99), "d1", 0, 7);
        canBe(at(355, 23, 99), "d9");
        judged(at(356, 0, 99), "d9", 0, 7);
        canBe(at(357, 23, 99), "k");
        judged(at(358, 0, 99), "k", 0, 7);
        judged(at(359, 0, 99), "k", 0, 7);
        canBe(at(358, 0, 98), "k");
        judged(at(358, 0, 98), "kk", 1, 7);
        canBe(at(364, 23, 98), "h1d9k");
    }

    private static void leastReason() {
        E.sentence("An ACT can not be for the least of these reasons");
        // 1 and 2; 1 and 4; 1 and 5; 1 and 6, each by a person that is outside; then 2 and 3.
        OxenKneel within = withDone("A(");
        within.clock(358, 1, 7);
        judged(within, "A(", 0, 1);
        judged(at(358, 1, 7), "A)", 0, 1);
        OxenKneel without = atMidnight();
        without.shift(0);
        without.person(0, 0);
        judged(without, "A>", 0, 1);
        judged(without, "A<", 0, 1);
        judged(without, "A$1", 0, 1);
        judged(without, "A%", 0, 1);
        without.clock(358, 1, 7);
        judged(without, "A(", 0, 2);
        judged(without, "A)", 0, 1);
    }

    private static void steppingOver() {
        E.sentence("( (steps over: is WITHIN, at PLACE 0), ) (comes out)");
        OxenKneel x = withDone("A(A>A>");
        Check.write(x, "A)");
        E.due("behind(0, 0), come out from place 2", x.behind(0, 0), OxenKneel.NONE);
        Check.write(x, "A)A(");
        E.due("behind(0, 0), over again", x.behind(0, 0), 0);
        Check.write(x, "B(");
        E.due("behind(1, 0)", x.behind(1, 0), 0);
        E.due("behind(0, 0) is another's", x.behind(0, 0), 2);
    }

    private static void goingUpAndDown() {
        E.sentence("> or < (goes a PLACE up, or down)");
        OxenKneel x = atMidnight();
        x.shift(30);
        Check.write(x, "A(A>");
        E.due("up from 0", x.behind(0, 0), 1);
        Check.write(x, "A(A>A<");
        E.due("down from 1", x.behind(0, 0), 0);
        Check.write(x, "A(" + "A>".repeat(28));
        x.done();
        Check.write(x, "A>");
        E.due("up from 28", x.behind(0, 0), 29);
        Check.write(x, "A>A<");
        E.due("down from 29", x.behind(0, 0), 28);
    }

    private static void coinLeft() {
        E.sentence("$ and a digit 1 to 9 (leaves so much COIN there)");
        for (int left = 1; left <= 9; left++) {
            OxenKneel x = withDone("F(F>F$" + left);
            E.due("coin, " + left + " left", x.told(25), 10 - left);
            E.due("what lies, " + left + " left", x.told(31), left);
        }
        OxenKneel x = withDone("A(A$9A$1");
        E.due("coin, all left", x.told(20), 0);
        E.due("what lies, all left", x.told(30), 10);
    }

    private static void coinHad() {
        E.sentence("% (has all that lies there)");
        OxenKneel x = withDone("A(B(A$9B$9A>A$1A<");
        Check.write(x, "A%");
        x.done();
        E.due("coin of A", x.told(20), 18);
        E.due("coin of B", x.told(21), 1);
        E.due("what lies on 0", x.told(30), 0);
        E.due("what lies on 1", x.told(31), 1);
    }

    // ---- promise 9

    private static void firstAct() {
        E.sentence("JUDGED: of YEARS the first ACT (from 0 on) that can not be, and why.");
        judged(atMidnight(), "A)A(A(A%", 0, 1);
        judged(atMidnight(), "A(A%A(", 1, 6);
        judged(atMidnight(), "A(A$1A$2h1h2B(", 5, 2);
        judged(at(0, 0, 41), "k".repeat(60), 59, 7);
        canBe(at(0, 0, 40), "k".repeat(60));
        judged(at(358, 0, 99), "k".repeat(60), 0, 7);
        E.sentence("JUDGED: the ACT (what = 0), why (1); NONE.");
        canBe(atMidnight(), "");
        canBe(atMidnight(), "k");
    }

    private static void judgeOutside() {
        E.sentence("JUDGED: the ACT (what = 0), why (1); NONE. OUTSIDE; NO: there is a FAULT.");
        for (int what : new int[] {-1, 2, FAR[0], FAR[1]}) {
            E.refused("judge(" + what + ")", OxenKneel.OUTSIDE, x -> x.judge(what));
        }
        for (int what = 0; what < 2; what++) {
            int asked = what;
            E.changesNothing("judge(" + what + ")", x -> x.judge(asked));
        }
    }

    private static void judgeOfFault() {
        E.sentence("NO: there is a FAULT.");
        for (int what = 0; what < 2; what++) {
            int asked = what;
            E.refusedAt(Standing.FAULTY, "judge(" + what + ")", OxenKneel.NO, x -> x.judge(asked));
            for (String text : new String[] {"A", "!", "A)A", "A)!", "k".repeat(59) + "h"}) {
                OxenKneel x = atMidnight();
                Check.write(x, text);
                E.due("judge(" + what + ") of " + text, x.judge(what), OxenKneel.NO);
            }
        }
    }

    // ---- promise 10

    private static void done() {
        E.sentence("YEARS on the PAD are DONE (it is empty then): ACTS.");
        OxenKneel x = atMidnight();
        E.due("done() of nothing", x.done(), 0);
        Check.write(x, "A(A$9h9d9");
        E.due("done()", x.done(), 4);
        E.due("told(0)", x.told(0), 0);
        E.due("fault()", x.fault(), OxenKneel.NONE);
        E.due("told(7)", x.told(7), 1);
        E.due("done() again", x.done(), 0);
        E.due("coin is left once", x.told(20), 1);
        E.due("done() of a full pad", Standing.PAD_FULL.made().done(), 60);
        OxenKneel full = atMidnight();
        Check.write(full, "A(" + "A$1A%".repeat(11) + "A)k");
        E.due("told(0), full", full.told(0), 60);
        E.due("done() of long acts", full.done(), 25);
    }

    private static void doneRefused() {
        E.sentence("NO: there is a FAULT, or an ACT that can not be.");
        for (Standing standing : Standing.values()) {
            if (!standing.isTellable) {
                E.refusedAt(standing, "done()", OxenKneel.NO, x -> x.done());
            }
        }
        // The acts ahead of the one that can not be are not done either.
        for (String text : new String[] {"A(A$5A>B)", "A(A$5A>A", "A(A$5A>!"}) {
            OxenKneel x = atMidnight();
            Check.write(x, text);
            E.due("done() of " + text, x.done(), OxenKneel.NO);
            E.due("told(7)", x.told(7), 0);
            E.due("told(20)", x.told(20), 10);
            E.due("told(30)", x.told(30), 0);
            E.due("told(0)", x.told(0), text.length());
        }
    }

    private static void behindIsNotDone() {
        E.sentence("DONE: all is so then. BEHIND, likewise, not being DONE");
        OxenKneel x = atMidnight();
        Check.write(x, "F(F>F$9h1d7");
        int[] behind = {x.behind(5, 0), x.behind(5, 1), x.lies(1), x.then(0), x.then(2), x.then(3), x.then(4)};
        int[] whats = {15, 25, 31, 1, 2, 3, 7};
        int[] ahead = {OxenKneel.NONE, 10, 0, 358, 0, 7, 0};
        int[] due = {1, 1, 9, 0, 1, 8, 32};
        for (int i = 0; i < whats.length; i++) {
            E.due("told(" + whats[i] + ") ahead of done()", x.told(whats[i]), ahead[i]);
            E.due("behind, as told(" + whats[i] + ")", behind[i], due[i]);
        }
        x.done();
        for (int i = 0; i < whats.length; i++) {
            E.due("told(" + whats[i] + ") behind done()", x.told(whats[i]), due[i]);
        }
    }

    // ---- promise 11

    private static void behindPlace() {
        E.sentence("of a PERSON the PLACE (NONE: outside), COIN");
        OxenKneel x = withDone("F(");
        E.due("behind(5, 0), within", x.behind(5, 0), 0);
        E.due("behind(0, 0), outside", x.behind(0, 0), OxenKneel.NONE);
        Check.write(x, "F)A(A>A>A<");
        E.due("behind(5, 0), come out", x.behind(5, 0), OxenKneel.NONE);
        E.due("behind(0, 0), stepped over", x.behind(0, 0), 1);
        E.due("told(15) is not so yet", x.told(15), 0);
        OxenKneel last = atMidnight();
        last.shift(30);
        Check.write(last, "F(" + "F>".repeat(29));
        E.due("behind(5, 0), the last place", last.behind(5, 0), 29);
    }

    private static void behindCoin() {
        E.sentence("BEHIND: the PLACE (what = 0; NONE), COIN (1).");
        OxenKneel x = atMidnight();
        x.person(5, 99);
        Check.write(x, "A(F(A$9A$1F%");
        E.due("behind(0, 1), all left", x.behind(0, 1), 0);
        E.due("behind(5, 1), above 99", x.behind(5, 1), 109);
        E.due("told(25) is not so yet", x.told(25), 99);
        E.changesNothing("behind(0, 0)", y -> y.behind(0, 0));
        E.changesNothing("behind(5, 1)", y -> y.behind(5, 1));
    }

    private static void behindRefused() {
        E.sentence("UNKNOWN; OUTSIDE; NO, as of done().");
        for (int person : new int[] {-1, 6, FAR[0], FAR[1]}) {
            E.refused("behind(" + person + ", 0)", OxenKneel.UNKNOWN, x -> x.behind(person, 0));
            E.refused("behind(" + person + ", 2)", OxenKneel.UNKNOWN, x -> x.behind(person, 2));
        }
        for (int what : new int[] {-1, 2, FAR[0], FAR[1]}) {
            E.refused("behind(0, " + what + ")", OxenKneel.OUTSIDE, x -> x.behind(0, what));
            E.refused("behind(5, " + what + ")", OxenKneel.OUTSIDE, x -> x.behind(5, what));
        }
        for (Standing standing : new Standing[] {Standing.FAULTY, Standing.CAN_NOT_BE}) {
            E.refusedAt(standing, "behind(0, 0)", OxenKneel.NO, x -> x.behind(0, 0));
            E.refusedAt(standing, "behind(5, 1)", OxenKneel.NO, x -> x.behind(5, 1));
        }
    }

    // ---- promise 12

    private static void lies() {
        E.sentence("BEHIND: what lies on a PLACE.");
        OxenKneel x = atMidnight();
        x.shift(30);
        Check.write(x, "A(" + "A>".repeat(28));
        x.done();
        Check.write(x, "A>A$7");
        E.due("lies(29)", x.lies(29), 7);
        E.due("lies(28)", x.lies(28), 0);
        E.due("told(59) is not so yet", x.told(59), 0);
        Check.write(x, "A>A$7A%");
        E.due("lies(29), had again", x.lies(29), 0);
        // A place that SHIFT does not reach is asked of all the same.
        for (int place : new int[] {0, 10, 11, 29}) {
            E.due("lies(" + place + ") at first", new OxenKneel().lies(place), 0);
        }
        E.changesNothing("lies(0)", y -> y.lies(0));
    }

    private static void liesRefused() {
        E.sentence("OUTSIDE: 0 to 29; NO, likewise.");
        for (int place : new int[] {-1, 30, FAR[0], FAR[1]}) {
            E.refused("lies(" + place + ")", OxenKneel.OUTSIDE, x -> x.lies(place));
        }
        for (Standing standing : new Standing[] {Standing.FAULTY, Standing.CAN_NOT_BE}) {
            E.refusedAt(standing, "lies(0)", OxenKneel.NO, x -> x.lies(0));
            E.refusedAt(standing, "lies(29)", OxenKneel.NO, x -> x.lies(29));
        }
    }

    // ---- promise 13

    private static void thenWithin() {
        E.sentence("Sets are bits.");
        String[] texts = {"", "A(", "F(", "A(F(", "A(B(C(D(E(F(", "A(B(C(D(E(F(A)"};
        int[] due = {0, 1, 32, 33, 63, 62};
        for (int i = 0; i < texts.length; i++) {
            OxenKneel x = atMidnight();
            Check.write(x, texts[i]);
            E.due("then(4) of " + texts[i], x.then(4), due[i]);
            x.done();
            E.due("told(7) behind " + texts[i], x.told(7), due[i]);
        }
    }

    private static void thenLies() {
        E.sentence("what lies WITHIN in all");
        OxenKneel x = atMidnight();
        x.shift(30);
        E.due("then(5) of nothing", x.then(5), 0);
        Check.write(x, "A(A$5" + "A>".repeat(26));
        x.done();
        Check.write(x, "A>A$2A>A$1A>A$2");
        E.due("then(5), the first place and the last", x.then(5), 10);
        Check.write(x, "A>A>A>A$2A%");
        E.due("then(5), had again", x.then(5), 5);
    }

    private static void met(OxenKneel x, String text, int act, int two) {
        Check.write(x, text);
        E.due("then(6) of " + text, x.then(6), act);
        E.due("then(7) of " + text, x.then(7), two);
    }

    private static void firstMeeting() {
        E.sentence("the first ACT behind which two are at one PLACE WITHIN who were not ahead of it");
        met(atMidnight(), "A(B(C(", 1, 1);
        met(atMidnight(), "h9d9kB(A(C(", 4, 1);
        met(atMidnight(), "A(A>B(B>A<", 3, 1);
        met(atMidnight(), "A(A>B(A<", 3, 1);
        met(atMidnight(), "A(A>B(C(", 3, 12);
        // Outside is no place at which one is met, and a place beside it is another one.
        met(atMidnight(), "A(A)B(B)", -6, -6);
        met(atMidnight(), "A(A>B(", -6, -6);
        // Who are at one place already have not met by an act, until they part.
        met(withDone("A(B("), "A$1A%B$1h1kC(C>", 5, 2);
        met(withDone("A(B("), "A$1A%h1k", -6, -6);
        met(withDone("A(B("), "A)B)", -6, -6);
        met(withDone("A(B("), "A>", -6, -6);
        met(withDone("A(B("), "A>B>", 1, 1);
        met(withDone("A(B("), "A>A<", 1, 1);
        met(withDone("A(B("), "A)A(", 1, 1);
        met(withDone("A(B("), "A)C(", 1, 12);
        OxenKneel full = atMidnight();
        met(full, "A(" + "A$1A%".repeat(11) + "kB(", 24, 1);
    }

    private static void whichTwo() {
        E.sentence("which two, the least (10 times the lesser, and the other; NONE)");
        met(atMidnight(), "A(B(", 1, 1);
        met(atMidnight(), "B(A(", 1, 1);
        met(atMidnight(), "A(F(", 1, 5);
        met(atMidnight(), "F(A(", 1, 5);
        met(atMidnight(), "E(F(", 1, 45);
        met(atMidnight(), "F(E(", 1, 45);
        met(withDone("B(E(F("), "A(", 0, 1);
        met(withDone("B(E(F("), "D(", 0, 13);
        met(withDone("E(B(F("), "C(", 0, 12);
        met(withDone("E(F("), "C(", 0, 24);
        met(withDone("A(A>C(B("), "D(", 0, 13);
    }

    private static void thenOfNothing() {
        E.sentence("BEHIND: the DATE by the OLD count (what = 0), by the NEW one (1), the HOUR (2), the YEAR (3), who "
            + "is WITHIN (4), what lies in all (5), the ACT (6; NONE), which two (7; NONE).");
        met(new OxenKneel(), "", -6, -6);
        met(withDone("A(B("), "", -6, -6);
        int[] due = {358, 4, 0, 7, 3, 0};
        for (int what = 0; what < due.length; what++) {
            E.due("then(" + what + ") of nothing", withDone("A(B(").then(what), due[what]);
        }
        for (int what = 0; what < 8; what++) {
            int asked = what;
            E.changesNothing("then(" + what + ")", x -> x.then(asked));
        }
    }

    private static void thenRefused() {
        E.sentence("which two (7; NONE). OUTSIDE; NO, likewise.");
        for (int what : new int[] {-1, 8, FAR[0], FAR[1]}) {
            E.refused("then(" + what + ")", OxenKneel.OUTSIDE, x -> x.then(what));
        }
        for (Standing standing : new Standing[] {Standing.FAULTY, Standing.CAN_NOT_BE}) {
            for (int what = 0; what < 8; what++) {
                int asked = what;
                E.refusedAt(standing, "then(" + what + ")", OxenKneel.NO, x -> x.then(asked));
            }
        }
    }
}
