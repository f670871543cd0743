/** Edges of the document's part 1 (counts, persons, the pad) and of promises 1 to 8, sentence by sentence. */
public final class CountsEdgesTest {
    private static final Edges E = new Edges();
    private static final int[] FAR = {Integer.MIN_VALUE, Integer.MAX_VALUE};

    public static void main(String[] args) {
        firstRefusalThatFits();
        refusedChangesNothing();
        refusalsByNumber();
        dates();
        firstDate();
        behindTheLastDate();
        hours();
        years();
        newCount();
        whenTheOxenKneel();
        persons();
        places();
        coinThatLies();
        calls();
        newObject();
        shiftTaken();
        shiftRefused();
        kneelTaken();
        kneelRefused();
        clockTaken();
        clockRefused();
        personTaken();
        personUnknown();
        personOutside();
        signs();
        sayOutside();
        sayFull();
        wipe();
        faultOfFirstSign();
        faultOfMoreToCome();
        faultOfLetters();
        faultOfDigits();
        faultOfNothing();
        E.finish();
    }

    private static OxenKneel at(int date, int hour, int year) {
        OxenKneel x = new OxenKneel();
        x.clock(date, hour, year);
        return x;
    }

    private static OxenKneel written(String text) {
        OxenKneel x = new OxenKneel();
        Check.write(x, text);
        return x;
    }

    /** The time behind a text, by the telling of it and by its being done, told as clock() does. */
    private static void timeDue(OxenKneel x, String text, int date, int hour, int year) {
        int want = 10000 * date + 100 * hour + year;
        String from = x.told(1) + ", " + x.told(2) + ", " + x.told(3) + " and " + text;
        Check.write(x, text);
        E.due("then of " + from, 10000 * x.then(0) + 100 * x.then(2) + x.then(3), want);
        x.done();
        E.due("told behind " + from, 10000 * x.told(1) + 100 * x.told(2) + x.told(3), want);
    }

    // ---- the terms

    private static void firstRefusalThatFits() {
        E.sentence("Calls that are refused answer, the first of these that fits");
        E.refused("person(6, 100)", OxenKneel.UNKNOWN, x -> x.person(6, 100));
        E.refusedAt(Standing.FAULTY, "behind(6, 2)", OxenKneel.UNKNOWN, x -> x.behind(6, 2));
        E.refusedAt(Standing.FAULTY, "behind(6, 0)", OxenKneel.UNKNOWN, x -> x.behind(6, 0));
        E.refusedAt(Standing.FAULTY, "behind(5, 2)", OxenKneel.OUTSIDE, x -> x.behind(5, 2));
        E.refusedAt(Standing.FAULTY, "behind(5, 1)", OxenKneel.NO, x -> x.behind(5, 1));
        E.refusedAt(Standing.FAULTY, "judge(2)", OxenKneel.OUTSIDE, x -> x.judge(2));
        E.refusedAt(Standing.CAN_NOT_BE, "lies(30)", OxenKneel.OUTSIDE, x -> x.lies(30));
        E.refusedAt(Standing.CAN_NOT_BE, "then(8)", OxenKneel.OUTSIDE, x -> x.then(8));
        E.refusedAt(Standing.BUSY, "shift(31)", OxenKneel.OUTSIDE, x -> x.shift(31));
        E.refusedAt(Standing.PAD_FULL, "say(127)", OxenKneel.OUTSIDE, x -> x.say(127));
        E.refusedAt(Standing.SIGHTS_FULL, "seen(100, true)", OxenKneel.OUTSIDE, x -> x.seen(100, true));
        E.refusedAt(Standing.NEW, "restore(2)", OxenKneel.OUTSIDE, x -> x.restore(2));
    }

    private static void refusedChangesNothing() {
        E.sentence("They change nothing.");
        // One of two numbers is as told, and is not taken either.
        E.refused("clock(5, 6, 100)", OxenKneel.OUTSIDE, x -> x.clock(5, 6, 100));
        E.refused("clock(5, 24, 7)", OxenKneel.OUTSIDE, x -> x.clock(5, 24, 7));
        E.refused("clock(365, 6, 7)", OxenKneel.OUTSIDE, x -> x.clock(365, 6, 7));
        E.refusedAt(Standing.BUSY, "shift(0)", OxenKneel.STATE, x -> x.shift(0));
        E.refusedAt(Standing.CAN_NOT_BE, "done()", OxenKneel.NO, x -> x.done());
        E.refusedAt(Standing.FAULTY, "done()", OxenKneel.NO, x -> x.done());
        E.refusedAt(Standing.PAD_FULL, "say('h')", OxenKneel.FULL, x -> x.say('h'));
        E.refusedAt(Standing.SIGHTS_FULL, "seen(50, true)", OxenKneel.FULL, x -> x.seen(50, true));
        E.refusedAt(Standing.PAD_FULL, "restore(0)", OxenKneel.STATE, x -> x.restore(0));
    }

    private static void refusalsByNumber() {
        E.sentence("UNKNOWN -1 (there is no such PERSON), OUTSIDE -2 (another number is not as told), NO -5 (as told), "
            + "STATE -3 (as told), FULL -4.");
        E.due("behind(6, 0)", new OxenKneel().behind(6, 0), -1);
        E.due("behind(0, 2)", new OxenKneel().behind(0, 2), -2);
        E.due("done()", Standing.FAULTY.made().done(), -5);
        E.due("shift(11)", Standing.BUSY.made().shift(11), -3);
        E.due("say(33)", Standing.PAD_FULL.made().say(33), -4);
        E.due("seen(0, true)", Standing.SIGHTS_FULL.made().seen(0, true), -4);
        // No call but these two has a PERSON: elsewhere 6 is a number like any other.
        E.due("person(6, 0)", new OxenKneel().person(6, 0), -1);
        E.due("lies(30)", new OxenKneel().lies(30), -2);
        E.due("told(16)", new OxenKneel().told(16), -2);
        E.due("told(26)", new OxenKneel().told(26), -2);
    }

    private static void dates() {
        E.sentence("A DATE is 0 to 364");
        for (int date : new int[] {0, 364}) {
            E.due("clock, date " + date, new OxenKneel().clock(date, 0, 0), 0);
            E.due("told(1), date " + date, at(date, 0, 0).told(1), date);
            E.due("kneel " + date, new OxenKneel().kneel(date), 358);
        }
        for (int date : new int[] {-1, 365, FAR[0], FAR[1]}) {
            E.refused("clock, date " + date, OxenKneel.OUTSIDE, x -> x.clock(date, 0, 0));
            E.refused("kneel " + date, OxenKneel.OUTSIDE, x -> x.kneel(date));
        }
    }

    private static void firstDate() {
        E.sentence("It is a DATE by the OLD count (0 at first)");
        E.due("told(1)", new OxenKneel().told(1), 0);
        E.due("then(0)", new OxenKneel().then(0), 0);
        E.due("then(1)", new OxenKneel().then(1), 11);
    }

    private static void behindTheLastDate() {
        E.sentence("behind 364 comes 0, of the next YEAR");
        timeDue(at(363, 5, 7), "d1", 364, 5, 7);
        timeDue(at(364, 5, 7), "d1", 0, 5, 8);
        timeDue(at(355, 5, 7), "d9", 364, 5, 7);
        timeDue(at(356, 5, 7), "d9", 0, 5, 8);
        timeDue(at(364, 5, 7), "d9", 8, 5, 8);
        timeDue(at(364, 22, 7), "h1", 364, 23, 7);
        timeDue(at(364, 23, 7), "h1", 0, 0, 8);
        timeDue(at(364, 14, 7), "h9", 364, 23, 7);
        timeDue(at(364, 15, 7), "h9", 0, 0, 8);
        timeDue(at(364, 23, 98), "h1", 0, 0, 99);
        timeDue(at(364, 23, 98), "d1", 0, 23, 99);
    }

    private static void hours() {
        E.sentence("an HOUR (0 to 23; 0 at first)");
        E.due("told(2) at first", new OxenKneel().told(2), 0);
        for (int hour : new int[] {0, 23}) {
            E.due("clock, hour " + hour, new OxenKneel().clock(0, hour, 0), 0);
            E.due("told(2), hour " + hour, at(0, hour, 0).told(2), hour);
        }
        for (int hour : new int[] {-1, 24, FAR[0], FAR[1]}) {
            E.refused("clock, hour " + hour, OxenKneel.OUTSIDE, x -> x.clock(0, hour, 0));
        }
        timeDue(at(9, 22, 7), "h1", 9, 23, 7);
        timeDue(at(9, 23, 7), "h1", 10, 0, 7);
        timeDue(at(9, 14, 7), "h9", 9, 23, 7);
        timeDue(at(9, 15, 7), "h9", 10, 0, 7);
        timeDue(at(9, 23, 7), "h9", 10, 8, 7);
        timeDue(at(9, 0, 7), "h9h9h5", 9, 23, 7);
        timeDue(at(9, 0, 7), "h9h9h6", 10, 0, 7);
    }

    private static void years() {
        E.sentence("of a YEAR (0 to 99; 0 at first)");
        E.due("told(3) at first", new OxenKneel().told(3), 0);
        for (int year : new int[] {0, 99}) {
            E.due("clock, year " + year, new OxenKneel().clock(0, 0, year), 0);
            E.due("told(3), year " + year, at(0, 0, year).told(3), year);
        }
        for (int year : new int[] {-1, 100, FAR[0], FAR[1]}) {
            E.refused("clock, year " + year, OxenKneel.OUTSIDE, x -> x.clock(0, 0, year));
        }
    }

    private static void newCount() {
        E.sentence("by the NEW count it is SHIFT more (0 to 30; 11 at first), left over by 365");
        E.due("told(4) at first", new OxenKneel().told(4), 11);
        int[][] counts = {{0, 0, 0}, {0, 364, 364}, {1, 363, 364}, {1, 364, 0}, {11, 0, 11}, {11, 353, 364},
            {11, 354, 0}, {11, 364, 10}, {30, 0, 30}, {30, 334, 364}, {30, 335, 0}, {30, 364, 29}};
        for (int[] row : counts) {
            OxenKneel x = at(row[1], 0, 7);
            x.shift(row[0]);
            E.due("then(1), shift " + row[0] + ", date " + row[1], x.then(1), row[2]);
            E.due("the year is the old count's", x.then(3), 7);
        }
    }

    private static void whenTheOxenKneel() {
        E.sentence("The OXEN KNEEL on one DATE by the OLD count (358 at first), in HOUR 0.");
        E.due("told(5) at first", new OxenKneel().told(5), 358);
        // The date by which they would kneel by the new count is among the wrong ones.
        int[][] times = {{358, 0, 1}, {358, 1, 0}, {358, 23, 0}, {357, 23, 0}, {357, 0, 0}, {359, 0, 0}, {347, 0, 0},
            {0, 0, 0}};
        for (int[] row : times) {
            OxenKneel x = at(row[0], row[1], 0);
            Check.write(x, "A(");
            E.due("whether A( can be at " + row[0] + ", " + row[1], x.judge(0) == OxenKneel.NONE ? 1 : 0, row[2]);
        }
        for (int date : new int[] {0, 364}) {
            OxenKneel x = at(date, 0, 0);
            x.kneel(date);
            Check.write(x, "A(");
            E.due("A( on the date " + date, x.judge(0), OxenKneel.NONE);
        }
    }

    private static void persons() {
        E.sentence("PERSONS 0 to 5 (A to F) have COIN (10 at first), and are outside (all, at first), or WITHIN");
        for (int i = 0; i < 6; i++) {
            OxenKneel x = at(358, 0, 0);
            E.due("place of " + i + " at first", x.told(10 + i), OxenKneel.NONE);
            E.due("coin of " + i + " at first", x.told(20 + i), 10);
            Check.write(x, (char) ('A' + i) + "(");
            x.done();
            for (int j = 0; j < 6; j++) {
                E.due("place of " + j + ", " + i + " within", x.told(10 + j), i == j ? 0 : OxenKneel.NONE);
            }
        }
    }

    private static void places() {
        E.sentence("PLACES are 0 to SHIFT less 1.");
        for (int shift : new int[] {1, 2, 11, 30}) {
            OxenKneel x = at(358, 0, 0);
            x.shift(shift);
            Check.write(x, "A(" + "A>".repeat(shift - 1));
            E.due("judge(0), up to the last, shift " + shift, x.judge(0), OxenKneel.NONE);
            E.due("behind(0, 0), shift " + shift, x.behind(0, 0), shift - 1);
            x.done();
            Check.write(x, "A>");
            E.due("judge(1) of one more, shift " + shift, x.judge(1), 4);
        }
        OxenKneel x = at(358, 0, 0);
        x.shift(0);
        Check.write(x, "A(");
        E.due("judge(1), shift 0", x.judge(1), 3);
    }

    private static void coinThatLies() {
        E.sentence("On each some COIN lies (none, at first).");
        for (int i = 0; i < 30; i++) {
            E.due("told(" + (30 + i) + ") at first", new OxenKneel().told(30 + i), 0);
        }
        for (int place : new int[] {0, 29}) {
            OxenKneel x = at(358, 0, 0);
            x.shift(30);
            Check.write(x, "A(" + "A>".repeat(place));
            x.done();
            Check.write(x, "A$4");
            x.done();
            for (int i = 0; i < 30; i++) {
                E.due("told(" + (30 + i) + "), left on " + place, x.told(30 + i), i == place ? 4 : 0);
            }
        }
    }

    private static void calls() {
        E.sentence("An object is used for at most 512 calls after it has been made");
        OxenKneel x = new OxenKneel();
        for (int call = 1; call <= 512; call++) {
            E.due("call " + call, x.clock(call % 365, call % 24, call % 100),
                10000 * ((call - 1) % 365) + 100 * ((call - 1) % 24) + (call - 1) % 100);
        }
    }

    // ---- promises 1 to 5

    private static void newObject() {
        E.sentence("`OxenKneel()`: All are outside.");
        E.due("told(7)", new OxenKneel().told(7), 0);
        E.due("then(4)", new OxenKneel().then(4), 0);
        E.due("signs", new OxenKneel().told(0), 0);
        E.due("sights", new OxenKneel().told(6), 0);
        // What is done to one object is nothing to another one.
        Standing.BUSY.made();
        E.due("told(7) of another", new OxenKneel().told(7), 0);
        E.due("told(4) of another", new OxenKneel().told(4), 11);
    }

    private static void shiftTaken() {
        E.sentence("SHIFT: which it was.");
        OxenKneel x = new OxenKneel();
        int was = 11;
        for (int days : new int[] {0, 30, 30, 1, 29, 0}) {
            E.due("shift(" + days + ")", x.shift(days), was);
            E.due("told(4)", x.told(4), days);
            was = days;
        }
        for (int days : new int[] {-1, 31, FAR[0], FAR[1]}) {
            E.refused("shift(" + days + ")", OxenKneel.OUTSIDE, y -> y.shift(days));
        }
    }

    private static void shiftRefused() {
        E.sentence("OUTSIDE; STATE: a PERSON is WITHIN, or something lies there.");
        for (Standing standing : Standing.values()) {
            if (standing.isPeopled) {
                for (int days : new int[] {0, 11, 30}) {
                    E.refusedAt(standing, "shift(" + days + ")", OxenKneel.STATE, x -> x.shift(days));
                }
            } else {
                E.due(standing + ": shift(30)", standing.made().shift(30), 11);
            }
        }
        for (char letter = 'A'; letter <= 'F'; letter++) {
            shiftAsOneComesAndGoes(letter);
        }
        shiftByOneCoinOnTheLastPlace();
    }

    private static void shiftAsOneComesAndGoes(char letter) {
        OxenKneel x = at(358, 0, 0);
        Check.write(x, letter + "(");
        E.due("shift, " + letter + "( being on the pad alone", x.shift(12), 11);
        x.done();
        E.due("shift, " + letter + " within", x.shift(13), OxenKneel.STATE);
        Check.write(x, letter + ")");
        x.done();
        E.due("shift, " + letter + " outside again", x.shift(13), 12);
    }

    private static void shiftByOneCoinOnTheLastPlace() {
        OxenKneel x = at(358, 0, 0);
        x.shift(30);
        Check.write(x, "A(" + "A>".repeat(29));
        x.done();
        Check.write(x, "A$1A)");
        x.done();
        E.due("shift, 1 lies on place 29", x.shift(12), OxenKneel.STATE);
        Check.write(x, "A(" + "A>".repeat(29));
        x.done();
        Check.write(x, "A%A)");
        x.done();
        E.due("shift, nothing lies any more", x.shift(12), 30);
    }

    private static void kneelTaken() {
        E.sentence("The DATE on which the OXEN KNEEL: which it was.");
        OxenKneel x = new OxenKneel();
        E.due("kneel(0)", x.kneel(0), 358);
        E.due("kneel(364)", x.kneel(364), 0);
        E.due("kneel(364) again", x.kneel(364), 364);
        E.due("told(5)", x.told(5), 364);
        E.due("kneel, persons being within", Standing.BUSY.made().kneel(364), 100);
    }

    private static void kneelRefused() {
        E.sentence("The DATE on which the OXEN KNEEL: which it was. OUTSIDE.");
        E.refused("kneel(-1)", OxenKneel.OUTSIDE, x -> x.kneel(-1));
        E.refused("kneel(365)", OxenKneel.OUTSIDE, x -> x.kneel(365));
    }

    private static void clockTaken() {
        E.sentence("10000 times the DATE, 100 times the HOUR, and the YEAR, as they were");
        OxenKneel x = new OxenKneel();
        E.due("clock(364, 23, 99)", x.clock(364, 23, 99), 0);
        E.due("clock(0, 0, 0)", x.clock(0, 0, 0), 3642399);
        E.due("clock(364, 0, 0)", x.clock(364, 0, 0), 0);
        E.due("clock(0, 23, 0)", x.clock(0, 23, 0), 3640000);
        E.due("clock(0, 0, 99)", x.clock(0, 0, 99), 2300);
        E.due("clock(1, 2, 3)", x.clock(1, 2, 3), 99);
        E.due("clock, persons being within", Standing.BUSY.made().clock(0, 0, 0), 1000042);
    }

    private static void clockRefused() {
        E.sentence("The DATE by the OLD count, the HOUR, the YEAR: 10000 times the DATE, 100 times the HOUR, and the "
            + "YEAR, as they were. OUTSIDE.");
        int[][] wrong = {{-1, 23, 99}, {365, 23, 99}, {364, -1, 99}, {364, 24, 99}, {364, 23, -1}, {364, 23, 100}};
        for (int[] w : wrong) {
            E.refused("clock(" + w[0] + ", " + w[1] + ", " + w[2] + ")", OxenKneel.OUTSIDE,
                x -> x.clock(w[0], w[1], w[2]));
        }
    }

    private static void personTaken() {
        E.sentence("COIN of a PERSON (0 to 99): how much it was.");
        for (int person = 0; person < 6; person++) {
            OxenKneel x = new OxenKneel();
            E.due("person(" + person + ", 99)", x.person(person, 99), 10);
            E.due("person(" + person + ", 0)", x.person(person, 0), 99);
            E.due("told(2" + person + ")", x.told(20 + person), 0);
            E.due("told(2" + (person + 1) % 6 + ")", x.told(20 + (person + 1) % 6), 10);
        }
        // What one has by % may be above 99: it is told so when it goes.
        OxenKneel x = at(358, 0, 0);
        x.person(0, 99);
        Check.write(x, "A(A$9");
        x.done();
        x.person(0, 99);
        Check.write(x, "A%");
        x.done();
        E.due("person(0, 99), it being 108", x.person(0, 99), 108);
    }

    private static void personUnknown() {
        E.sentence("UNKNOWN -1 (there is no such PERSON)");
        for (int person : new int[] {-1, 6, FAR[0], FAR[1]}) {
            E.refused("person(" + person + ", 0)", OxenKneel.UNKNOWN, x -> x.person(person, 0));
            E.refused("person(" + person + ", 100)", OxenKneel.UNKNOWN, x -> x.person(person, 100));
        }
    }

    private static void personOutside() {
        E.sentence("COIN of a PERSON (0 to 99): how much it was. UNKNOWN; OUTSIDE.");
        for (int coin : new int[] {-1, 100, FAR[0], FAR[1]}) {
            E.refused("person(0, " + coin + ")", OxenKneel.OUTSIDE, x -> x.person(0, coin));
            E.refused("person(5, " + coin + ")", OxenKneel.OUTSIDE, x -> x.person(5, coin));
        }
    }

    // ---- promises 6 to 8

    private static void signs() {
        E.sentence("A sign more: how many.");
        OxenKneel x = new OxenKneel();
        E.due("say(33)", x.say(33), 1);
        E.due("say(126)", x.say(126), 2);
        for (int i = 3; i <= 60; i++) {
            E.due("say, the " + i + "th", x.say('k'), i);
        }
        E.due("told(0)", x.told(0), 60);
    }

    private static void sayOutside() {
        E.sentence("(60 SIGNS at most, codes 33 to 126)");
        for (int sign : new int[] {32, 127, 0, -1, 33 + 256, FAR[0], FAR[1]}) {
            E.refused("say(" + sign + ")", OxenKneel.OUTSIDE, x -> x.say(sign));
        }
    }

    private static void sayFull() {
        E.sentence("A sign more: how many. OUTSIDE; FULL.");
        E.refusedAt(Standing.PAD_FULL, "say(33)", OxenKneel.FULL, x -> x.say(33));
        E.refusedAt(Standing.PAD_FULL, "say(126)", OxenKneel.FULL, x -> x.say(126));
        OxenKneel x = Standing.PAD_FULL.made();
        x.wipe();
        E.due("say behind wipe()", x.say('k'), 1);
        OxenKneel y = Standing.PAD_FULL.made();
        E.due("done() of a full pad", y.done(), 60);
        E.due("say behind done()", y.say('k'), 1);
    }

    private static void wipe() {
        E.sentence("Signs go: how many there were.");
        OxenKneel x = new OxenKneel();
        E.due("wipe() of none", x.wipe(), 0);
        x.say('!');
        E.due("wipe() of one", x.wipe(), 1);
        E.due("fault() behind it", x.fault(), OxenKneel.NONE);
        E.due("wipe() again", x.wipe(), 0);
        OxenKneel full = Standing.PAD_FULL.made();
        E.due("wipe() of a full pad", full.wipe(), 60);
        E.due("told(0)", full.told(0), 0);
        E.due("what went is not there", full.then(3), 0);
        full.say('h');
        E.due("fault() of a sign behind it", full.fault(), 1);
        OxenKneel busy = Standing.BUSY.made();
        E.due("wipe(), persons being within", busy.wipe(), 9);
        E.due("signs alone go", busy.told(7), 7);
        E.due("sights stay", busy.told(6), 3);
    }

    private static void faultsDue(Object[][] rows) {
        for (Object[] row : rows) {
            E.due("fault() of " + row[0], written((String) row[0]).fault(), (Integer) row[1]);
        }
    }

    private static void faultOfFirstSign() {
        E.sentence("THE FAULT: the place (from 0 on) of the first sign that can not stand there");
        faultsDue(new Object[][] {
            {"!", 0}, {"~", 0}, {"(", 0}, {"$", 0}, {"%", 0}, {"1", 0}, {"H1", 0}, {"D", 1}, {"K", 0}, {"AA", 1},
            {"Ak", 1}, {"Ah", 1}, {"A1", 1}, {"hh", 1}, {"dA", 1}, {"A$$", 2}, {"A$A", 2}, {"k1", 1}, {"h12", 2},
            {"d12", 2}, {"A(1", 2}, {"A$12", 3}, {"A((", 2}, {"A)!A!", 2}, {"k!", 1},
            {"k".repeat(59) + "!", 59}, {"!" + "k".repeat(59), 0}, {"k".repeat(58) + "A!", 59},
        });
    }

    private static void faultOfMoreToCome() {
        E.sentence("the number of signs, if more must come");
        faultsDue(new Object[][] {
            {"A", 1}, {"F", 1}, {"A$", 2}, {"h", 1}, {"d", 1}, {"kA", 2}, {"kh", 2}, {"A(A", 3}, {"A$1F$", 5},
            {"k".repeat(59) + "A", 60}, {"k".repeat(58) + "A$", 60}, {"k".repeat(59) + "h", 60},
            {"k".repeat(59) + "d", 60},
        });
    }

    private static void faultOfLetters() {
        E.sentence("a PERSON's letter and: ( (steps over: is WITHIN, at PLACE 0)");
        faultsDue(new Object[][] {
            {"@(", 0}, {"A(", -6}, {"F(", -6}, {"G(", 0}, {"a(", 0}, {"f(", 0},
            {"A'", 1}, {"A(", -6}, {"A)", -6}, {"A*", 1}, {"A;", 1}, {"A<", -6}, {"A=", 1}, {"A>", -6}, {"A?", 1},
            {"A#", 1}, {"A$1", -6}, {"A%", -6}, {"A&", 1},
        });
    }

    private static void faultOfDigits() {
        E.sentence("$ and a digit 1 to 9 (leaves so much COIN there)");
        faultsDue(new Object[][] {{"A$/", 2}, {"A$0", 2}, {"A$1", -6}, {"A$9", -6}, {"A$:", 2}});
        E.sentence("h and a digit 1 to 9 (so many HOURS pass)");
        faultsDue(new Object[][] {{"h/", 1}, {"h0", 1}, {"h1", -6}, {"h9", -6}, {"h:", 1}, {"g1", 0}, {"i1", 0}});
        E.sentence("d and a digit 1 to 9 (so many days pass: the HOUR is the same)");
        faultsDue(new Object[][] {{"d/", 1}, {"d0", 1}, {"d1", -6}, {"d9", -6}, {"d:", 1}, {"c1", 0}, {"e1", 0}});
        timeDue(at(9, 23, 7), "d1", 10, 23, 7);
        timeDue(at(9, 0, 7), "d9", 18, 0, 7);
        E.sentence("k (it is the next time that the OXEN KNEEL, HOUR 0; if they do now, that of the next YEAR)");
        faultsDue(new Object[][] {{"j", 0}, {"k", -6}, {"l", 0}});
        nextTimes();
    }

    private static void nextTimes() {
        timeDue(at(0, 0, 7), "k", 358, 0, 7);
        timeDue(at(357, 23, 7), "k", 358, 0, 7);
        timeDue(at(358, 0, 7), "k", 358, 0, 8);
        timeDue(at(358, 1, 7), "k", 358, 0, 8);
        timeDue(at(358, 23, 7), "k", 358, 0, 8);
        timeDue(at(359, 0, 7), "k", 358, 0, 8);
        timeDue(at(364, 23, 7), "kk", 358, 0, 9);
        OxenKneel first = at(364, 23, 7);
        first.kneel(0);
        timeDue(first, "k", 0, 0, 8);
        timeDue(first, "k", 0, 0, 9);
        OxenKneel last = at(0, 0, 7);
        last.kneel(364);
        timeDue(last, "k", 364, 0, 7);
        timeDue(last, "h1k", 364, 0, 8);
    }

    private static void faultOfNothing() {
        E.sentence("`int fault()`: THE FAULT; NONE.");
        faultsDue(new Object[][] {{"", -6}, {"k".repeat(60), -6}, {"A(".repeat(30), -6}, {"A$1".repeat(20), -6}});
        E.changesNothing("fault()", x -> x.fault());
    }
}
