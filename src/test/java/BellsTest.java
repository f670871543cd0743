/** Promises 17 to 26: seen, forget, rounds, ask, halves, knelt, year, image, restore, told. */
public final class BellsTest {
    private static final Check CHECK = new Check();

    public static void main(String[] args) {
        sights();
        roundsAndAsk();
        halves();
        knelt();
        year();
        images();
        told();
        CHECK.finish();
    }

    private static void due(String call, long got, long want) {
        CHECK.due(call, got, want);
    }

    private static void sights() {
        OxenKneel x = new OxenKneel();
        due("seen(-1)", x.seen(-1, true), OxenKneel.OUTSIDE);
        due("seen(100)", x.seen(100, false), OxenKneel.OUTSIDE);
        for (int i = 1; i <= 8; i++) {
            due("seen(99)", x.seen(99, false), i);
        }
        due("seen, full", x.seen(0, true), OxenKneel.FULL);
        due("seen, full, outside", x.seen(100, true), OxenKneel.OUTSIDE);
        due("told(6)", x.told(6), 8);
        due("forget", x.forget(), 8);
        due("forget again", x.forget(), 0);
        due("all fit again", x.rounds(-1), 209);
    }

    private static void roundsAndAsk() {
        int[] hours = {99, 50, 3, 17, 4, 0, 60, 61};
        boolean[] rang = {true, false, false, false, false, false, false, false};
        for (int i = 0; i <= hours.length; i++) {
            OxenKneel x = new OxenKneel();
            Model model = new Model();
            for (int k = 0; k < i; k++) {
                due("seen", x.seen(hours[k], rang[k]), model.seen(hours[k], rang[k]));
            }
            for (int j = -2; j <= 210; j++) {
                due("rounds(" + j + "), sights " + i, x.rounds(j), model.rounds(j));
            }
            for (int what = -1; what <= 2; what++) {
                due("ask(" + what + "), sights " + i, x.ask(what), model.ask(what));
            }
        }
        OxenKneel x = new OxenKneel();
        x.seen(5, true);
        x.seen(5, false);
        due("it can not be both", x.rounds(-1), 0);
        due("rounds(0) of none", x.rounds(0), OxenKneel.NONE);
        due("ask(0) of none", x.ask(0), OxenKneel.NONE);
        due("ask(2) of none", x.ask(2), OxenKneel.OUTSIDE);
        due("rounds(least)", x.rounds(Integer.MIN_VALUE), OxenKneel.NONE);
        due("rounds(most)", x.rounds(Integer.MAX_VALUE), OxenKneel.NONE);
    }

    private static void halves() {
        for (int n = -1; n <= 10000; n++) {
            OxenKneel x = new OxenKneel();
            for (int what = -1; what <= 2; what++) {
                due("halves(" + n + ", " + what + ")", x.halves(n, what), Model.halves(n, what));
            }
        }
    }

    private static void knelt() {
        for (int n = -1; n <= 17; n++) {
            for (int k = -1; k <= n + 1; k++) {
                OxenKneel x = new OxenKneel();
                for (int t = -1; t <= 11; t++) {
                    for (int i = 0; i < 16; i++) {
                        int what = i / 4 - 1;
                        int part = i % 4 - 1;
                        String call = "knelt(" + n + ", " + k + ", " + t + ", " + what + ", " + part + ")";
                        due(call, x.knelt(n, k, t, what, part), Model.knelt(n, k, t, what, part));
                    }
                }
            }
        }
        due("none is 0 by 1", new OxenKneel().knelt(16, 1, 0, 0, 1), 1);
        due("no nights", new OxenKneel().knelt(0, 0, 0, 0, 0), 1);
    }

    private static void year() {
        Model model = new Model();
        for (int seed = -1; seed <= 10000; seed += seed < 40 || seed > 9970 ? 1 : 31) {
            OxenKneel x = new OxenKneel();
            for (int m : new int[] {-1, 0, 1, 2, 10, 50, 98, 99, 100}) {
                for (int what = -1; what <= 3; what++) {
                    due("year(" + seed + ", " + m + ", " + what + ")", x.year(seed, m, what),
                        model.year(seed, m, what));
                }
            }
            due("nothing is done in fact", x.told(3), 0);
            due("nobody is within in fact", x.told(7), 0);
        }
    }

    private static void images() {
        OxenKneel x = new OxenKneel();
        due("image(-1)", x.image(-1), OxenKneel.OUTSIDE);
        due("image(2)", x.image(2), OxenKneel.OUTSIDE);
        due("restore(-1)", x.restore(-1), OxenKneel.OUTSIDE);
        due("restore(2)", x.restore(2), OxenKneel.OUTSIDE);
        due("restore(1), not kept", x.restore(1), OxenKneel.STATE);
        x.shift(7);
        x.kneel(100);
        x.clock(100, 0, 9);
        x.person(3, 42);
        x.seen(5, true);
        Check.write(x, "D(D$2D>");
        x.done();
        due("image(1)", x.image(1), 1);
        due("restore(0), not kept", x.restore(0), OxenKneel.STATE);
        Check.write(x, "D)");
        x.done();
        x.kneel(0);
        x.clock(1, 2, 3);
        x.person(3, 1);
        x.forget();
        x.seen(6, false);
        x.seen(7, false);
        Check.write(x, "kk");
        due("restore(1)", x.restore(1), 1);
        int[] whole = {2, 100, 0, 9, 7, 100, 1, 8};
        for (int what = 0; what < 8; what++) {
            due("restored: told(" + what + ")", x.told(what), whole[what]);
        }
        due("restored: told(13)", x.told(13), 1);
        due("restored: told(23)", x.told(23), 40);
        due("restored: told(30)", x.told(30), 2);
        due("restored: rounds(0)", x.rounds(0), 201);
        x.person(3, 5);
        due("restore(1) again", x.restore(1), 1);
        due("an image is not changed by what comes", x.told(23), 40);
        x.person(3, 6);
        due("image(1) anew", x.image(1), 1);
        x.person(3, 7);
        x.restore(1);
        due("the later image is the one", x.told(23), 6);
    }

    private static void told() {
        OxenKneel x = new OxenKneel();
        int[] outside = {-1, 8, 9, 16, 19, 26, 29, 60, 61, Integer.MIN_VALUE, Integer.MAX_VALUE};
        for (int what : outside) {
            due("told(" + what + ")", x.told(what), OxenKneel.OUTSIDE);
        }
        x.clock(358, 0, 0);
        x.shift(30);
        Check.write(x, "F(" + "F>".repeat(29));
        due("done", x.done(), 30);
        due("told(15)", x.told(15), 29);
        Check.write(x, "F$9");
        due("told(0)", x.told(0), 3);
        due("done", x.done(), 1);
        due("told(59)", x.told(59), 9);
        due("told(25)", x.told(25), 1);
        due("told(7)", x.told(7), 32);
        Check.write(x, "F%");
        due("done", x.done(), 1);
        due("told(59), had", x.told(59), 0);
        due("told(25), had", x.told(25), 10);
    }
}
