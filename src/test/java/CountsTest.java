/** Promises 1 to 8: a new object, shift, kneel, clock, person, say, wipe, fault. */
public final class CountsTest {
    private static final Check CHECK = new Check();

    public static void main(String[] args) {
        newObject();
        shift();
        kneel();
        clock();
        person();
        say();
        fault();
        CHECK.finish();
    }

    private static void due(String call, long got, long want) {
        CHECK.due(call, got, want);
    }

    private static void newObject() {
        OxenKneel x = new OxenKneel();
        int[] first = {0, 0, 0, 0, 11, 358, 0, 0};
        for (int what = 0; what < first.length; what++) {
            due("new: told(" + what + ")", x.told(what), first[what]);
        }
        for (int i = 0; i < 6; i++) {
            due("new: told(1" + i + ")", x.told(10 + i), OxenKneel.NONE);
            due("new: told(2" + i + ")", x.told(20 + i), 10);
        }
        for (int i = 0; i < 30; i++) {
            due("new: told(30 and " + i + ")", x.told(30 + i), 0);
        }
        due("new: restore(0)", x.restore(0), OxenKneel.STATE);
        due("new: restore(1)", x.restore(1), OxenKneel.STATE);
    }

    private static void shift() {
        OxenKneel x = new OxenKneel();
        due("shift(-1)", x.shift(-1), OxenKneel.OUTSIDE);
        due("shift(31)", x.shift(31), OxenKneel.OUTSIDE);
        due("shift(0)", x.shift(0), 11);
        due("shift(30)", x.shift(30), 0);
        due("shift(30) again", x.shift(30), 30);
        Check.write(x, "kA(");
        due("shift, not yet done", x.shift(12), 30);
        due("done", x.done(), 2);
        due("shift, one within", x.shift(12), OxenKneel.STATE);
        due("shift, one within, outside", x.shift(31), OxenKneel.OUTSIDE);
        due("the shift stays", x.told(4), 12);
        Check.write(x, "A$1A)");
        due("done", x.done(), 2);
        due("shift, some lies", x.shift(11), OxenKneel.STATE);
        Check.write(x, "A(A%A)");
        due("done", x.done(), 3);
        due("shift, none lies", x.shift(11), 12);
    }

    private static void kneel() {
        OxenKneel x = new OxenKneel();
        due("kneel(-1)", x.kneel(-1), OxenKneel.OUTSIDE);
        due("kneel(365)", x.kneel(365), OxenKneel.OUTSIDE);
        due("kneel(0)", x.kneel(0), 358);
        due("kneel(364)", x.kneel(364), 0);
        due("told(5)", x.told(5), 364);
    }

    private static void clock() {
        OxenKneel x = new OxenKneel();
        int[][] wrong = {{-1, 0, 0}, {365, 0, 0}, {0, -1, 0}, {0, 24, 0}, {0, 0, -1}, {0, 0, 100}};
        for (int[] w : wrong) {
            due("clock outside", x.clock(w[0], w[1], w[2]), OxenKneel.OUTSIDE);
        }
        due("clock(364, 23, 99)", x.clock(364, 23, 99), 0);
        due("clock(1, 2, 3)", x.clock(1, 2, 3), 3642399);
        due("clock(0, 0, 0)", x.clock(0, 0, 0), 10203);
    }

    private static void person() {
        OxenKneel x = new OxenKneel();
        due("person(-1, 100)", x.person(-1, 100), OxenKneel.UNKNOWN);
        due("person(6, 0)", x.person(6, 0), OxenKneel.UNKNOWN);
        due("person(5, -1)", x.person(5, -1), OxenKneel.OUTSIDE);
        due("person(5, 100)", x.person(5, 100), OxenKneel.OUTSIDE);
        due("person(5, 99)", x.person(5, 99), 10);
        due("person(5, 0)", x.person(5, 0), 99);
        due("told(25)", x.told(25), 0);
        due("told(24)", x.told(24), 10);
    }

    private static void say() {
        OxenKneel x = new OxenKneel();
        due("say(32)", x.say(32), OxenKneel.OUTSIDE);
        due("say(127)", x.say(127), OxenKneel.OUTSIDE);
        due("say(33)", x.say(33), 1);
        due("say(126)", x.say(126), 2);
        for (int i = 3; i <= 60; i++) {
            due("say(107)", x.say(107), i);
        }
        due("say, full", x.say(107), OxenKneel.FULL);
        due("say, full, outside", x.say(0), OxenKneel.OUTSIDE);
        due("told(0)", x.told(0), 60);
        due("wipe", x.wipe(), 60);
        due("wipe again", x.wipe(), 0);
        due("say behind it", x.say(107), 1);
    }

    private static void fault() {
        Object[][] faults = {
            {"", -6}, {"k", -6}, {"kk", -6}, {"A", 1}, {"AA", 1}, {"A(", -6}, {"A)", -6}, {"A<", -6}, {"A>", -6},
            {"A%", -6}, {"A$", 2}, {"A$0", 2}, {"A$1", -6}, {"F$9", -6}, {"F$:", 2}, {"F$/", 2}, {"G(", 0}, {"@(", 0},
            {"a(", 0}, {"Ak", 1}, {"Ah1", 1}, {"(", 0}, {"1", 0}, {"h", 1}, {"h0", 1}, {"h9", -6}, {"d", 1},
            {"d1", -6}, {"dk", 1}, {"h12", 2}, {"d99", 2}, {"k1", 1}, {"A((", 2}, {"A$12", 3}, {"$1", 0}, {"K", 0},
            {"kA(h9B$3d1F%C", 13}, {"A((x", 2},
        };
        for (Object[] row : faults) {
            OxenKneel x = new OxenKneel();
            Check.write(x, (String) row[0]);
            due("fault of " + row[0], x.fault(), (Integer) row[1]);
        }
        OxenKneel x = new OxenKneel();
        Check.write(x, "k".repeat(59) + "A");
        due("fault of 60 signs", x.fault(), 60);
    }
}
