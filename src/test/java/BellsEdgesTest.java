/** Edges of the document's part 4 (bells, halves, kneeling) and of promises 17 to 26, sentence by sentence. */
public final class BellsEdgesTest {
    private static final Edges E = new Edges();
    private static final int[] FAR = {Integer.MIN_VALUE, Integer.MAX_VALUE};

    public static void main(String[] args) {
        seenTaken();
        seenOutside();
        seenFull();
        forget();
        bells();
        roundsRising();
        roundsNone();
        askHours();
        askLeast();
        askNothingFits();
        askRefused();
        halves();
        halvesCut();
        halvesRefused();
        kneltNights();
        kneltAtLeast();
        kneltMean();
        kneltInLowestTerms();
        kneltRefused();
        yearByDraws();
        yearThatWraps();
        yearAnswers();
        yearOfEachAct();
        yearChangesNothing();
        yearRefused();
        image();
        imageOutside();
        restore();
        restoreRefused();
        told();
        toldRefused();
        E.finish();
    }

    private static OxenKneel at(int date, int hour, int year) {
        OxenKneel x = new OxenKneel();
        x.clock(date, hour, year);
        return x;
    }

    private static OxenKneel withDone(String text) {
        OxenKneel x = at(358, 0, 7);
        Check.write(x, text);
        x.done();
        return x;
    }

    /** Hours at which it did not ring are told by less than 0: -1 for hour 0, and so on. */
    private static OxenKneel withSights(int... sights) {
        OxenKneel x = new OxenKneel();
        for (int sight : sights) {
            x.seen(sight < 0 ? -1 - sight : sight, sight >= 0);
        }
        return x;
    }

    // ---- promises 17 to 20

    private static void seenTaken() {
        E.sentence("at hour n (0 to 99) it rang, or did not");
        OxenKneel x = new OxenKneel();
        E.due("seen(0, true)", x.seen(0, true), 1);
        E.due("seen(99, false)", x.seen(99, false), 2);
        E.due("the same again", x.seen(99, false), 3);
        E.due("rounds(-1), rang at 0", withSights(0).rounds(-1), 19);
        E.due("rounds(-1), did not at 0", withSights(-1).rounds(-1), 190);
        E.due("rounds(-1), rang at 99", withSights(99).rounds(-1), 19);
        E.due("rounds(-1), did not at 99", withSights(-100).rounds(-1), 190);
        E.due("rounds(-1), both at 99", withSights(99, -100).rounds(-1), 0);
    }

    private static void seenOutside() {
        E.sentence("A SIGHT more: how many. OUTSIDE; FULL.");
        for (int n : new int[] {-1, 100, FAR[0], FAR[1]}) {
            E.refused("seen(" + n + ", true)", OxenKneel.OUTSIDE, x -> x.seen(n, true));
            E.refused("seen(" + n + ", false)", OxenKneel.OUTSIDE, x -> x.seen(n, false));
        }
    }

    private static void seenFull() {
        E.sentence("SIGHTS, 8 at most");
        OxenKneel x = new OxenKneel();
        for (int i = 1; i <= 8; i++) {
            E.due("seen, the " + i + "th", x.seen(99, false), i);
        }
        E.due("told(6)", x.told(6), 8);
        for (int n : new int[] {0, 99}) {
            E.refusedAt(Standing.SIGHTS_FULL, "seen(" + n + ", true)", OxenKneel.FULL, y -> y.seen(n, true));
            E.refusedAt(Standing.SIGHTS_FULL, "seen(" + n + ", false)", OxenKneel.FULL, y -> y.seen(n, false));
        }
        // The first and the last of eight count.
        E.due("rounds(-1), the first of eight", withSights(0, -100, -100, -100, -100, -100, -100, -100).rounds(0), 200);
        E.due("rounds(-1), the last of eight", withSights(-2, -2, -2, -2, -2, -2, -2, 1).rounds(-1), 0);
    }

    private static void forget() {
        E.sentence("SIGHTS go: how many there were.");
        E.due("forget() of none", new OxenKneel().forget(), 0);
        OxenKneel x = Standing.SIGHTS_FULL.made();
        E.due("forget() of eight", x.forget(), 8);
        E.due("told(6)", x.told(6), 0);
        E.due("rounds(-1)", x.rounds(-1), 209);
        E.due("forget() again", x.forget(), 0);
        E.due("seen behind it", x.seen(99, true), 1);
        E.due("what went does not count", x.rounds(-1), 19);
        OxenKneel busy = Standing.BUSY.made();
        E.due("forget(), persons being within", busy.forget(), 3);
        E.due("sights alone go", busy.told(7), 7);
        E.due("signs stay", busy.told(0), 9);
    }

    private static void bells() {
        E.sentence("A bell rings each p hours (2 to 20), first at hour r (0 to p less 1).");
        OxenKneel x = new OxenKneel();
        int i = 0;
        for (int p = 2; p <= 20; p++) {
            for (int r = 0; r < p; r++) {
                E.due("rounds(" + i + ")", x.rounds(i), 100 * p + r);
                i++;
            }
        }
        // It does not ring ahead of its first hour, and rings at that one.
        E.due("rounds(0), not at 0, at 1", withSights(-1, 1).rounds(0), 201);
        E.due("rounds(-1), not from 0 to 6, at 7", withSights(-1, -2, -3, -4, -5, -6, -7, 7).rounds(-1), 13);
        E.due("rounds(0), not from 0 to 6, at 7", withSights(-1, -2, -3, -4, -5, -6, -7, 7).rounds(0), 807);
        E.due("rounds(-1), at 19, 39, not at 9, 15", withSights(19, 39, -10, -16).rounds(-1), 1);
        E.due("rounds(0), at 19, 39, not at 9, 15", withSights(19, 39, -10, -16).rounds(0), 2019);
    }

    private static void roundsRising() {
        E.sentence("100 times p, and r, by which all SIGHTS are so: how many; the i-th (rising)");
        OxenKneel none = new OxenKneel();
        E.due("rounds(-1), all fit", none.rounds(-1), 209);
        E.due("rounds(0), all fit", none.rounds(0), 200);
        E.due("rounds(208), all fit", none.rounds(208), 2019);
        OxenKneel first = withSights(0);
        OxenKneel last = withSights(99);
        for (int p = 2; p <= 20; p++) {
            E.due("rounds(" + (p - 2) + "), rang at 0", first.rounds(p - 2), 100 * p);
            E.due("rounds(" + (p - 2) + "), rang at 99", last.rounds(p - 2), 100 * p + 99 % p);
        }
        OxenKneel one = withSights(0, 7, -61);
        E.due("rounds(-1), one fits", one.rounds(-1), 1);
        E.due("rounds(0), one fits", one.rounds(0), 700);
    }

    private static void roundsNone() {
        E.sentence("ROUNDS: how many (i = -1), the i-th; NONE.");
        for (int i : new int[] {-2, 209, FAR[0], FAR[1]}) {
            E.due("rounds(" + i + "), all fit", new OxenKneel().rounds(i), OxenKneel.NONE);
        }
        E.due("rounds(19), nineteen fit", withSights(0).rounds(19), OxenKneel.NONE);
        E.due("rounds(1), one fits", withSights(0, 7, -61).rounds(1), OxenKneel.NONE);
        E.due("rounds(-1), none fits", withSights(5, -6).rounds(-1), 0);
        E.due("rounds(0), none fits", withSights(5, -6).rounds(0), OxenKneel.NONE);
        E.due("rounds(-2), none fits", withSights(5, -6).rounds(-2), OxenKneel.NONE);
        E.changesNothing("rounds(-1)", x -> x.rounds(-1));
        E.changesNothing("rounds(0)", x -> x.rounds(0));
        E.changesNothing("rounds(-2)", x -> x.rounds(-2));
    }

    private static void askHours() {
        E.sentence("so that, whether it rings or not, fewest of these are left at the most: the least; how many");
        E.due("ask(0), all fit", new OxenKneel().ask(0), 0);
        E.due("ask(1), all fit", new OxenKneel().ask(1), 190);
        E.due("ask(0), rang at 0", withSights(0).ask(0), 60);
        E.due("ask(1), rang at 0", withSights(0).ask(1), 10);
        // Of these eleven five ring at hour 99, and so many at no other hour.
        OxenKneel late = withSights(19, -89, -56, -22, -27);
        E.due("rounds(-1)", late.rounds(-1), 11);
        E.due("ask(0), the last hour", late.ask(0), 99);
        E.due("ask(1), the last hour", late.ask(1), 6);
        // Of these fifteen seven would ring at hour 100, but that is none to ask about.
        OxenKneel later = withSights(28, -48, -14);
        E.due("rounds(-1)", later.rounds(-1), 15);
        E.due("ask(0), not the hour behind the last", later.ask(0), 64);
        E.due("ask(1), not the hour behind the last", later.ask(1), 9);
    }

    private static void askLeast() {
        E.sentence("ASK: the hour (what = 0), how many (1)");
        OxenKneel one = withSights(0, 7, -61);
        E.due("ask(0), one fits", one.ask(0), 0);
        E.due("ask(1), one fits", one.ask(1), 1);
        // 900 and 1800 are left: hour 9 is the first at which but one of them rings.
        OxenKneel two = withSights(0, 36, -13);
        E.due("rounds(-1), two fit", two.rounds(-1), 2);
        E.due("ask(0), two fit", two.ask(0), 9);
        E.due("ask(1), two fit", two.ask(1), 1);
    }

    private static void askNothingFits() {
        E.sentence("NONE: nothing fits.");
        E.due("ask(0)", withSights(5, -6).ask(0), OxenKneel.NONE);
        E.due("ask(1)", withSights(5, -6).ask(1), OxenKneel.NONE);
        E.due("ask(2)", withSights(5, -6).ask(2), OxenKneel.OUTSIDE);
        E.due("ask(-1)", withSights(5, -6).ask(-1), OxenKneel.OUTSIDE);
        OxenKneel x = withSights(5, -6);
        x.forget();
        E.due("ask(0) behind forget()", x.ask(0), 0);
    }

    private static void askRefused() {
        E.sentence("ASK: the hour (what = 0), how many (1); NONE: nothing fits. OUTSIDE.");
        for (int what : new int[] {-1, 2, FAR[0], FAR[1]}) {
            E.refused("ask(" + what + ")", OxenKneel.OUTSIDE, x -> x.ask(what));
        }
        E.changesNothing("ask(0)", x -> x.ask(0));
        E.changesNothing("ask(1)", x -> x.ask(1));
    }

    // ---- promises 21 to 23

    private static void halvesDue(int n, int wins, int leaves) {
        E.due("halves(" + n + ", 0)", new OxenKneel().halves(n, 0), wins);
        E.due("halves(" + n + ", 1)", new OxenKneel().halves(n, 1), leaves);
    }

    private static void halves() {
        E.sentence("who finds none has lost: whether who begins can win (1, 0); how many he leaves first for it, the "
            + "least (NONE)");
        halvesDue(0, 0, OxenKneel.NONE);
        halvesDue(1, 1, 0);
        halvesDue(2, 0, OxenKneel.NONE);
        halvesDue(3, 1, 2);
        halvesDue(4, 1, 2);
        halvesDue(9998, 0, OxenKneel.NONE);
        halvesDue(9999, 1, 9998);
    }

    private static void halvesCut() {
        E.sentence("of n hours (0 to 9999) two by turns leave one less, or the half of them (cut)");
        halvesDue(5, 1, 2);
        halvesDue(6, 0, OxenKneel.NONE);
        halvesDue(7, 1, 6);
        halvesDue(8, 0, OxenKneel.NONE);
        halvesDue(16, 1, 8);
        halvesDue(17, 1, 8);
        halvesDue(8192, 0, OxenKneel.NONE);
        halvesDue(8193, 1, 8192);
        E.changesNothing("halves(9999, 1)", x -> x.halves(9999, 1));
    }

    private static void halvesRefused() {
        E.sentence("HALVES: whether (what = 0), how many (1; NONE). OUTSIDE.");
        for (int n : new int[] {-1, 10000, FAR[0], FAR[1]}) {
            E.refused("halves(" + n + ", 0)", OxenKneel.OUTSIDE, x -> x.halves(n, 0));
            E.refused("halves(" + n + ", 1)", OxenKneel.OUTSIDE, x -> x.halves(n, 1));
        }
        for (int what : new int[] {-1, 2, FAR[0], FAR[1]}) {
            E.refused("halves(0, " + what + ")", OxenKneel.OUTSIDE, x -> x.halves(0, what));
            E.refused("halves(9999, " + what + ")", OxenKneel.OUTSIDE, x -> x.halves(9999, what));
        }
    }

    private static void kneltDue(int n, int k, int t, int what, long upper, long lower) {
        String row = n + ", " + k + ", " + t + ", " + what;
        E.due("knelt(" + row + ", 0)", new OxenKneel().knelt(n, k, t, what, 0), upper);
        E.due("knelt(" + row + ", 1)", new OxenKneel().knelt(n, k, t, what, 1), lower);
    }

    private static void kneltNights() {
        E.sentence("in each of n nights (0 to 16) they would kneel with t tenths (0 to 10), by itself");
        kneltDue(0, 0, 0, 0, 1, 1);
        kneltDue(0, 0, 10, 0, 1, 1);
        kneltDue(16, 16, 0, 0, 0, 1);
        kneltDue(16, 16, 10, 0, 1, 1);
        long lost = OxenKneel.LOST + OxenKneel.OUTSIDE;
        for (int n : new int[] {-1, 17}) {
            E.refused("knelt(" + n + ", 0, 5, 0, 0)", lost, x -> x.knelt(n, 0, 5, 0, 0));
        }
        for (int t : new int[] {-1, 11}) {
            E.refused("knelt(16, 0, " + t + ", 0, 0)", lost, x -> x.knelt(16, 0, t, 0, 0));
        }
        E.sentence("KNELT: k at least (what = 0), the mean (1). OUTSIDE.");
        kneltDue(2, 1, 5, 0, 3, 4);
        kneltDue(2, 1, 5, 1, 1, 1);
        for (int what : new int[] {-1, 2}) {
            E.refused("knelt(2, 1, 5, " + what + ", 0)", lost, x -> x.knelt(2, 1, 5, what, 0));
            E.refused("knelt(2, 1, 5, " + what + ", 1)", lost, x -> x.knelt(2, 1, 5, what, 1));
        }
    }

    private static void kneltAtLeast() {
        E.sentence("that they do so in k of them (0 to n) at least");
        for (int t : new int[] {0, 3, 10}) {
            kneltDue(0, 0, t, 0, 1, 1);
            kneltDue(16, 0, t, 0, 1, 1);
        }
        kneltDue(16, 1, 0, 0, 0, 1);
        kneltDue(16, 16, 0, 0, 0, 1);
        kneltDue(16, 16, 10, 0, 1, 1);
        kneltDue(1, 1, 10, 0, 1, 1);
        kneltDue(1, 1, 1, 0, 1, 10);
        kneltDue(1, 1, 9, 0, 9, 10);
        kneltDue(2, 1, 1, 0, 19, 100);
        kneltDue(2, 2, 1, 0, 1, 100);
        // 1 to the 16, 9 to the 16 (1853020188851841), and what 10 to the 16 has above it.
        kneltDue(16, 16, 1, 0, 1, 10000000000000000L);
        kneltDue(16, 16, 9, 0, 1853020188851841L, 10000000000000000L);
        kneltDue(16, 1, 1, 0, 8146979811148159L, 10000000000000000L);
        kneltDue(16, 1, 9, 0, 9999999999999999L, 10000000000000000L);
    }

    private static void kneltMean() {
        E.sentence("in how many in the mean (k is no matter, but as told)");
        kneltDue(0, 0, 0, 1, 0, 1);
        kneltDue(0, 0, 10, 1, 0, 1);
        kneltDue(16, 0, 0, 1, 0, 1);
        kneltDue(16, 0, 10, 1, 16, 1);
        kneltDue(16, 16, 10, 1, 16, 1);
        kneltDue(16, 0, 9, 1, 72, 5);
        kneltDue(16, 16, 9, 1, 72, 5);
        kneltDue(1, 0, 1, 1, 1, 10);
        E.refused("knelt(16, -1, 5, 1, 0)", OxenKneel.LOST + OxenKneel.OUTSIDE, x -> x.knelt(16, -1, 5, 1, 0));
        E.refused("knelt(16, 17, 5, 1, 0)", OxenKneel.LOST + OxenKneel.OUTSIDE, x -> x.knelt(16, 17, 5, 1, 0));
        E.refused("knelt(0, 1, 5, 1, 0)", OxenKneel.LOST + OxenKneel.OUTSIDE, x -> x.knelt(0, 1, 5, 1, 0));
    }

    private static void kneltInLowestTerms() {
        E.sentence("Fractions are told in lowest terms by part: 0 the upper, 1 the lower number");
        kneltDue(1, 1, 5, 0, 1, 2);
        kneltDue(1, 1, 2, 0, 1, 5);
        kneltDue(1, 1, 3, 0, 3, 10);
        kneltDue(16, 16, 5, 0, 1, 65536);
        kneltDue(16, 1, 5, 0, 65535, 65536);
        kneltDue(16, 16, 2, 0, 1, 152587890625L);
        kneltDue(2, 0, 5, 1, 1, 1);
        E.changesNothing("knelt(16, 5, 3, 0, 0)", x -> x.knelt(16, 5, 3, 0, 0));
    }

    private static void kneltRefused() {
        E.sentence("refused with LOST and the refusal");
        E.due("LOST and OUTSIDE", OxenKneel.LOST + OxenKneel.OUTSIDE, -1000000000000000002L);
        int[][] wrong = {{-1, 0, 5, 0, 0}, {17, 0, 5, 0, 0}, {17, 17, 5, 0, 0}, {16, -1, 5, 0, 0}, {16, 17, 5, 0, 0},
            {0, 1, 5, 0, 0}, {-1, -1, 5, 0, 0}, {16, 5, -1, 0, 0}, {16, 5, 11, 0, 0}, {16, 5, 5, -1, 0},
            {16, 5, 5, 2, 0}, {16, 5, 5, 0, -1}, {16, 5, 5, 0, 2}, {16, 5, 5, 1, -1}, {16, 5, 5, 1, 2},
            {0, 0, 11, 0, 0}, {0, 0, -1, 1, 1}};
        for (int[] w : wrong) {
            kneltRefusedBy(w);
        }
        for (int far : FAR) {
            for (int i = 0; i < 5; i++) {
                int[] w = {16, 5, 5, 0, 0};
                w[i] = far;
                kneltRefusedBy(w);
            }
        }
    }

    private static void kneltRefusedBy(int[] w) {
        E.refused("knelt(" + w[0] + ", " + w[1] + ", " + w[2] + ", " + w[3] + ", " + w[4] + ")",
            OxenKneel.LOST + OxenKneel.OUTSIDE, x -> x.knelt(w[0], w[1], w[2], w[3], w[4]));
    }

    private static void yearDue(OxenKneel x, int seed, int m, int what, int want) {
        E.due("year(" + seed + ", " + m + ", " + what + ")", x.year(seed, m, what), want);
    }

    private static void yearByDraws() {
        E.sentence("A YEAR by a seed (0 to 9999) of m ACTS (1 to 99), from all as it is");
        // By seed 0 x becomes 74: C has what lies there. By seed 9999 it becomes 29092: E steps over.
        OxenKneel x = withDone("C(C$5");
        yearDue(x, 0, 1, 1, 0);
        yearDue(x, 9999, 1, 1, 5);
        yearDue(x, 9999, 1, 0, 2);
        yearDue(x, 0, 1, 0, 1);
        OxenKneel y = at(358, 0, 3);
        yearDue(y, 0, 98, 2, 21);
        yearDue(y, 0, 99, 2, 22);
        yearDue(y, 78, 98, 0, 3);
        yearDue(y, 78, 99, 0, 4);
        yearDue(y, 48, 98, 1, 11);
        yearDue(y, 48, 99, 1, 3);
    }

    private static void yearThatWraps() {
        E.sentence("x becomes (75 x and 74) left over by 65537");
        // By seed 872 x becomes 65474, and C steps over. By 873 it would be 65549, and F would have what lies there;
        // but it is 12, and A goes a place down. By 1747 it would be 131099, that is 25: B has what lies there.
        yearDue(at(358, 0, 7), 872, 1, 0, 1);
        yearDue(withDone("F(F$5"), 873, 1, 1, 5);
        yearDue(withDone("B(B$5"), 1747, 1, 1, 0);
        yearDue(withDone("A(A$5"), 1747, 1, 1, 5);
    }

    private static void yearAnswers() {
        E.sentence("how many are WITHIN; what lies there in all; the YEAR.");
        // By seed 0 the first act can not be: all is as it is.
        OxenKneel x = withDone("A(B(D(E(F(F$9E$9D>D$9");
        yearDue(x, 0, 1, 0, 5);
        yearDue(x, 0, 1, 1, 27);
        yearDue(x, 0, 1, 2, 7);
        yearDue(new OxenKneel(), 0, 1, 0, 0);
        yearDue(new OxenKneel(), 0, 1, 1, 0);
        yearDue(new OxenKneel(), 0, 1, 2, 0);
        yearDue(at(358, 0, 99), 0, 1, 2, 99);
        OxenKneel all = withDone("A(B(C(D(E(F(");
        yearDue(all, 0, 1, 0, 6);
    }

    /** The first act of each of these seeds is worked out by hand: the deed, the person, and the number. */
    private static void yearOfEachAct() {
        E.sentence("0 steps over, 1 comes out, if z left over by 4 is 0, else goes a PLACE up, 2 a PLACE down, 3 leaves "
            + "1 and z left over by 9, 4 has what lies there, 5 HOURS: 1 and z left over by 9, 6 days, likewise, 7 it is "
            + "the next time; each if that can be");
        yearDue(at(358, 0, 7), 1, 1, 0, 1);     // F steps over
        yearDue(at(358, 1, 7), 1, 1, 0, 0);
        yearDue(at(358, 0, 7), 885, 1, 0, 1);   // A steps over
        yearDue(withDone("F("), 35, 1, 0, 0);   // F comes out
        yearDue(withDone("F("), 3, 1, 0, 1);    // F goes a place up
        yearDue(withDone("C(C>C$4C<"), 282, 1, 1, 4);   // C goes a place up
        yearDue(withDone("C(C>C$4C<"), 282, 2, 1, 0);   // and has what lies there
        yearDue(withDone("C(C$4C>"), 492, 1, 1, 4);     // C goes a place down
        yearDue(withDone("C(C$4C>"), 492, 2, 1, 0);     // and has what lies there
        yearDue(withDone("F("), 103, 1, 1, 1);  // F leaves 1
        yearDue(withDone("F("), 39, 1, 1, 9);   // F leaves 9
        yearDue(withDone("F(F$2"), 39, 1, 1, 2);
        yearDue(withDone("F(F$2"), 9, 1, 1, 0); // F has what lies there
        yearDue(at(364, 23, 7), 11, 1, 2, 8);   // 1 hour
        yearDue(at(364, 22, 7), 11, 1, 2, 7);
        yearDue(at(364, 15, 7), 91, 1, 2, 8);   // 9 hours
        yearDue(at(364, 14, 7), 91, 1, 2, 7);
        yearDue(at(364, 0, 7), 109, 1, 2, 8);   // 1 day
        yearDue(at(363, 23, 7), 109, 1, 2, 7);
        yearDue(at(356, 0, 7), 45, 1, 2, 8);    // 9 days
        yearDue(at(355, 23, 7), 45, 1, 2, 7);
        yearDue(at(357, 23, 7), 6, 1, 2, 7);    // it is the next time
        yearDue(at(358, 0, 7), 6, 1, 2, 8);
        yearDue(at(358, 0, 99), 6, 1, 2, 99);
        yearDue(at(364, 23, 99), 11, 99, 2, 99);
    }

    private static void yearChangesNothing() {
        E.sentence("Nothing is DONE in fact.");
        for (int what = 0; what < 3; what++) {
            int asked = what;
            E.changesNothing("year(0, 99, " + what + ")", x -> x.year(0, 99, asked));
            E.changesNothing("year(9999, 1, " + what + ")", x -> x.year(9999, 1, asked));
        }
        // What stands on the pad is nothing to it.
        OxenKneel x = at(358, 0, 7);
        Check.write(x, "F(!");
        yearDue(x, 1, 1, 0, 1);
        x.wipe();
        yearDue(x, 1, 1, 0, 1);
    }

    private static void yearRefused() {
        E.sentence("A YEAR: WITHIN (what = 0), what lies (1), the YEAR (2). OUTSIDE.");
        for (int seed : new int[] {-1, 10000, FAR[0], FAR[1]}) {
            E.refused("year(" + seed + ", 1, 0)", OxenKneel.OUTSIDE, x -> x.year(seed, 1, 0));
        }
        for (int m : new int[] {0, 100, -1, FAR[0], FAR[1]}) {
            E.refused("year(0, " + m + ", 0)", OxenKneel.OUTSIDE, x -> x.year(0, m, 0));
        }
        for (int what : new int[] {-1, 3, FAR[0], FAR[1]}) {
            E.refused("year(0, 1, " + what + ")", OxenKneel.OUTSIDE, x -> x.year(0, 1, what));
        }
    }

    // ---- promises 24 to 26

    private static void image() {
        E.sentence("All but the PAD is kept in an IMAGE (0, 1): 1.");
        for (int n = 0; n < 2; n++) {
            for (Standing standing : Standing.values()) {
                OxenKneel x = standing.made();
                E.due(standing + ": image(" + n + ")", x.image(n), 1);
                E.due(standing + ": restore(" + n + ")", x.restore(n), 1);
                E.due(standing + ": the other one", x.restore(1 - n), standing.isPeopled ? 1 : OxenKneel.STATE);
            }
        }
        OxenKneel x = new OxenKneel();
        Check.write(x, "kk");
        x.image(0);
        Check.write(x, "k");
        x.restore(0);
        E.due("the pad is as it is, not as it was", x.told(0), 1);
        E.due("so are its signs", x.then(3), 0);
    }

    private static void imageOutside() {
        E.sentence("All but the PAD is kept in an IMAGE (0, 1): 1. OUTSIDE.");
        for (int n : new int[] {-1, 2, FAR[0], FAR[1]}) {
            E.refused("image(" + n + ")", OxenKneel.OUTSIDE, x -> x.image(n));
        }
    }

    private static void restore() {
        E.sentence("It is as it was when it was kept: 1.");
        // Each image is of its own, is kept anew, and stays as it is when all is changed that was had from it.
        OxenKneel x = new OxenKneel();
        Standing.BUSY.bring(x);
        int[] at0 = {42, 30, 100, 2, 7, 0, 1, 0, 90, 10, 12};
        int[] at1 = {42, 30, 100, 2, 0, -6, -6, -6, 99, 10, 0};
        for (int times = 0; times < 2; times++) {
            restoredDue(x, 0, at0);
            changeAll(x);
            restoredDue(x, 1, at1);
            changeAll(x);
        }
        x.person(0, 77);
        x.image(1);
        restoredDue(x, 0, at0);
        x.restore(1);
        E.due("the later of two is kept", x.told(20), 77);
        E.due("the later of two is kept", x.told(3), 99);
    }

    private static void restoredDue(OxenKneel x, int n, int[] due) {
        int[] whats = {3, 4, 5, 6, 7, 10, 11, 12, 22, 23, 30};
        E.due("restore(" + n + ")", x.restore(n), 1);
        for (int i = 0; i < whats.length; i++) {
            E.due("restored " + n + ": told(" + whats[i] + ")", x.told(whats[i]), due[i]);
        }
        E.due("restored " + n + ": rounds(-1)", x.rounds(-1), 10);
        E.due("restored " + n + ": rounds(0)", x.rounds(0), 700);
    }

    private static void changeAll(OxenKneel x) {
        for (char letter = 'A'; letter <= 'C'; letter++) {
            Check.write(x, letter + "%" + letter + "$1" + letter + ">");
            x.done();
        }
        x.clock(0, 1, 99);
        x.kneel(364);
        x.forget();
        x.seen(5, false);
        x.seen(6, true);
        x.person(2, 0);
        x.person(3, 0);
    }

    private static void restoreRefused() {
        E.sentence("It is as it was when it was kept: 1. OUTSIDE; STATE: it was not.");
        for (int n : new int[] {-1, 2, FAR[0], FAR[1]}) {
            E.refused("restore(" + n + ")", OxenKneel.OUTSIDE, x -> x.restore(n));
        }
        for (Standing standing : Standing.values()) {
            if (!standing.isPeopled) {
                E.refusedAt(standing, "restore(0)", OxenKneel.STATE, x -> x.restore(0));
                E.refusedAt(standing, "restore(1)", OxenKneel.STATE, x -> x.restore(1));
            }
        }
    }

    private static void told() {
        E.sentence("0 signs, 1 the DATE by the OLD count, 2 the HOUR, 3 the YEAR, 4 SHIFT, 5 when the OXEN KNEEL, 6 "
            + "SIGHTS, 7 who is WITHIN (bits)");
        int[] busy = {9, 100, 0, 42, 30, 100, 3, 7};
        int[] full = {60, 0, 0, 0, 11, 358, 0, 0};
        for (int what = 0; what < 8; what++) {
            E.due("BUSY: told(" + what + ")", Standing.BUSY.made().told(what), busy[what]);
            E.due("PAD_FULL: told(" + what + ")", Standing.PAD_FULL.made().told(what), full[what]);
            int asked = what;
            E.changesNothing("told(" + what + ")", x -> x.told(asked));
        }
        E.due("SIGHTS_FULL: told(6)", Standing.SIGHTS_FULL.made().told(6), 8);
        E.sentence("10 and a PERSON: the PLACE (NONE); 20 and a PERSON: COIN; 30 and a PLACE 0 to 29: what lies there");
        int[] places = {0, 1, 0, -6, -6, -6};
        int[] coins = {7, 10, 90, 50, 10, 10};
        for (int i = 0; i < 6; i++) {
            E.due("BUSY: told(" + (10 + i) + ")", Standing.BUSY.made().told(10 + i), places[i]);
            E.due("BUSY: told(" + (20 + i) + ")", Standing.BUSY.made().told(20 + i), coins[i]);
        }
        for (int i = 0; i < 30; i++) {
            E.due("BUSY: told(" + (30 + i) + ")", Standing.BUSY.made().told(30 + i), i == 0 ? 12 : 0);
        }
    }

    private static void toldRefused() {
        E.sentence("30 and a PLACE 0 to 29: what lies there. OUTSIDE.");
        for (int what : new int[] {-1, 8, 9, 16, 19, 26, 29, 60, FAR[0], FAR[1]}) {
            E.refused("told(" + what + ")", OxenKneel.OUTSIDE, x -> x.told(what));
        }
    }
}
