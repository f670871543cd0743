/** Edges of the document's part 3 (rounds, styles, packing) and of promises 14 to 16, sentence by sentence. */
public final class RoundsEdgesTest {
    private static final Edges E = new Edges();
    private static final int[] FAR = {Integer.MIN_VALUE, Integer.MAX_VALUE};

    public static void main(String[] args) {
        roundsTaken();
        agreeTaken();
        agreeNever();
        agreeRefused();
        oldDaysThatThereAre();
        oldLeapDays();
        newLeapDays();
        firstAndLastDays();
        yearsThatTurn();
        daysOfTheWeek();
        daysOfTheYear();
        styleRefused();
        packDoings();
        packTaken();
        packLeast();
        packRefused();
        E.finish();
    }

    // ---- promise 14

    private static void agreeDue(int p, int x, int q, int y, int want) {
        E.due("agree(" + p + ", " + x + ", " + q + ", " + y + ")", new OxenKneel().agree(p, x, q, y), want);
    }

    private static void roundsTaken() {
        E.sentence("AGREE: of two rounds, one of p days (1 to 999), one of q (likewise), day 0 of both is now");
        for (int p : new int[] {1, 999}) {
            for (int q : new int[] {1, 999}) {
                agreeDue(p, 0, q, 0, 0);
            }
        }
        for (int far : new int[] {0, 1000}) {
            E.refused("agree, p " + far, OxenKneel.OUTSIDE, x -> x.agree(far, 0, 5, 0));
            E.refused("agree, q " + far, OxenKneel.OUTSIDE, x -> x.agree(5, 0, far, 0));
        }
    }

    private static void agreeTaken() {
        E.sentence("behind how many days, the fewest, the one is at its day x (0 to p less 1), the other one at its "
            + "day y (0 to q less 1)");
        agreeDue(1, 0, 1, 0, 0);
        agreeDue(999, 0, 999, 0, 0);
        agreeDue(999, 998, 999, 998, 998);
        agreeDue(1, 0, 999, 998, 998);
        agreeDue(999, 998, 1, 0, 998);
        agreeDue(999, 998, 998, 997, 999 * 998 - 1);
        agreeDue(998, 997, 999, 998, 999 * 998 - 1);
        agreeDue(999, 0, 998, 997, 997002 - 999);
        agreeDue(2, 1, 3, 2, 5);
        agreeDue(6, 5, 4, 3, 11);
        agreeDue(4, 3, 6, 5, 11);
        agreeDue(6, 0, 4, 0, 0);
        agreeDue(3, 2, 9, 8, 8);
        agreeDue(9, 8, 3, 2, 8);
        agreeDue(2, 1, 999, 0, 999);
        agreeDue(999, 0, 2, 1, 999);
        E.changesNothing("agree(999, 998, 998, 997)", x -> x.agree(999, 998, 998, 997));
    }

    private static void agreeNever() {
        E.sentence("`int agree(int p, int x, int q, int y)`: AGREE; NONE.");
        agreeDue(2, 0, 2, 1, OxenKneel.NONE);
        agreeDue(999, 998, 999, 997, OxenKneel.NONE);
        agreeDue(998, 0, 996, 995, OxenKneel.NONE);
        agreeDue(4, 1, 6, 2, OxenKneel.NONE);
    }

    private static void agreeRefused() {
        E.sentence("AGREE; NONE. OUTSIDE: p, x, q, y.");
        int[][] wrong = {{0, 0, 1, 0}, {1000, 0, 1, 0}, {1, 0, 0, 0}, {1, 0, 1000, 0}, {-1, 0, 1, 0}, {1, 0, -1, 0},
            {5, -1, 5, 0}, {5, 5, 5, 0}, {5, 0, 5, -1}, {5, 0, 5, 5}, {1, 1, 1, 0}, {1, 0, 1, 1},
            {999, 999, 1, 0}, {1, 0, 999, 999}, {3, 3, 9, 3}, {9, 3, 3, 3}};
        for (int[] w : wrong) {
            E.refused("agree(" + w[0] + ", " + w[1] + ", " + w[2] + ", " + w[3] + ")", OxenKneel.OUTSIDE,
                x -> x.agree(w[0], w[1], w[2], w[3]));
        }
        for (int far : FAR) {
            E.refused("agree, p " + far, OxenKneel.OUTSIDE, x -> x.agree(far, 0, 5, 0));
            E.refused("agree, x " + far, OxenKneel.OUTSIDE, x -> x.agree(5, far, 5, 0));
            E.refused("agree, q " + far, OxenKneel.OUTSIDE, x -> x.agree(5, 0, far, 0));
            E.refused("agree, y " + far, OxenKneel.OUTSIDE, x -> x.agree(5, 0, 5, far));
        }
    }

    // ---- promise 15

    private static void styleDue(int y, int m, int d, int day) {
        E.due("style(" + y + ", " + m + ", " + d + ", 0)", new OxenKneel().style(y, m, d, 0), day);
    }

    private static void styleRefusedAt(int y, int m, int d) {
        E.refused("style(" + y + ", " + m + ", " + d + ", 0)", OxenKneel.OUTSIDE, x -> x.style(y, m, d, 0));
    }

    private static void oldDaysThatThereAre() {
        E.sentence("a day by the OLD style (Y 1000 to 3000, M 1 to 12, D 1 to 31 that there is");
        // The last day of each month of 1751 by the new style, eleven days on.
        int[] last = {31, 28, 31, 30, 31, 30, 31, 31, 30, 31, 30, 31};
        for (int m = 1; m <= 12; m++) {
            styleDue(1751, m, last[m - 1], m < 12 ? 17510011 + 100 * (m + 1) : 17520111);
            styleDue(1751, m, 1, 17510012 + 100 * m);
            styleRefusedAt(1751, m, last[m - 1] + 1);
            styleRefusedAt(1751, m, 32);
            styleRefusedAt(1751, m, 0);
            styleRefusedAt(1751, m, -1);
        }
    }

    private static void oldLeapDays() {
        E.sentence("February has 29 days in each fourth Y");
        styleDue(1752, 2, 29, 17520311);
        styleDue(1700, 2, 29, 17000311);
        styleDue(1600, 2, 29, 16000310);
        styleDue(1000, 2, 29, 10000306);
        styleDue(3000, 2, 29, 30000321);
        styleDue(2996, 2, 29, 29960320);
        // The years behind a leap day's begin where that one's ended.
        styleDue(1752, 12, 31, 17530111);
        styleDue(1753, 1, 1, 17530112);
        styleDue(1754, 1, 1, 17540112);
        styleDue(1755, 1, 1, 17550112);
        styleDue(1756, 1, 1, 17560112);
        styleDue(1757, 1, 1, 17570112);
        styleDue(1701, 1, 1, 17010112);
        styleDue(1700, 1, 1, 17000111);
        for (int y : new int[] {1751, 1753, 1754, 1701, 1699, 1001, 2999}) {
            styleRefusedAt(y, 2, 29);
        }
        for (int y : new int[] {1752, 1700, 1000, 3000}) {
            styleRefusedAt(y, 2, 30);
        }
    }

    private static void newLeapDays() {
        E.sentence("(likewise, but in a Y that is a hundred times a number only if it is so by 400)");
        // By the new style 1700 and 1900 have no such day, 1600, 2000 and 1752 have it.
        styleDue(1700, 2, 18, 17000228);
        styleDue(1700, 2, 19, 17000301);
        styleDue(1900, 2, 16, 19000228);
        styleDue(1900, 2, 17, 19000301);
        styleDue(1600, 2, 19, 16000229);
        styleDue(1600, 2, 20, 16000301);
        styleDue(2000, 2, 16, 20000229);
        styleDue(2000, 2, 17, 20000301);
        styleDue(1752, 2, 18, 17520229);
        styleDue(1752, 2, 19, 17520301);
        styleDue(1751, 2, 17, 17510228);
        styleDue(1751, 2, 18, 17510301);
        // From its leap day on the old style is a day more behind.
        styleDue(1700, 2, 28, 17000310);
        styleDue(1700, 3, 1, 17000312);
        styleDue(2000, 2, 29, 20000313);
        styleDue(2000, 3, 1, 20000314);
    }

    private static void firstAndLastDays() {
        E.sentence("1752, 9, 2 by the OLD style was 1752, 9, 13 by the NEW one, and a Wednesday: 10000 times Y, 100 "
            + "times M, and D");
        styleDue(1752, 9, 2, 17520913);
        styleDue(1752, 9, 3, 17520914);
        E.due("style(1752, 9, 2, 1)", new OxenKneel().style(1752, 9, 2, 1), 2);
        styleDue(1000, 1, 1, 10000106);
        styleDue(3000, 12, 31, 30010121);
        styleRefusedAt(999, 12, 31);
        styleRefusedAt(3001, 1, 1);
    }

    private static void yearsThatTurn() {
        E.sentence("which day of its Y it is by the NEW style (1 to 366)");
        int[][] rows = {{1752, 12, 20, 366}, {1752, 12, 21, 1}, {1751, 12, 20, 365}, {1751, 12, 21, 1},
            {1700, 12, 20, 365}, {1700, 12, 21, 1}, {2000, 12, 18, 366}, {2000, 12, 19, 1}, {1600, 12, 21, 366},
            {1600, 12, 22, 1}, {3000, 12, 10, 365}, {3000, 12, 11, 1}, {1000, 1, 1, 6}, {3000, 12, 31, 21}};
        for (int[] row : rows) {
            E.due("style(" + row[0] + ", " + row[1] + ", " + row[2] + ", 2)",
                new OxenKneel().style(row[0], row[1], row[2], 2), row[3]);
        }
        styleDue(1752, 12, 20, 17521231);
        styleDue(1752, 12, 21, 17530101);
        styleDue(1700, 12, 20, 17001231);
        styleDue(1700, 12, 21, 17010101);
        styleDue(3000, 12, 10, 30001231);
        styleDue(3000, 12, 11, 30010101);
    }

    private static void daysOfTheWeek() {
        E.sentence("the day of the week (0 Monday to 6 Sunday)");
        E.due("1752, 8, 31", new OxenKneel().style(1752, 8, 31, 1), 0);
        for (int d = 1; d <= 7; d++) {
            E.due("1752, 9, " + d, new OxenKneel().style(1752, 9, d, 1), d % 7);
        }
        E.due("the first day of all, a Monday", new OxenKneel().style(1000, 1, 1, 1), 0);
        E.due("the last day of all, a Wednesday", new OxenKneel().style(3000, 12, 31, 1), 2);
        // The leap day of 1700, that is by the old style alone, is a day of the week like any other.
        E.due("1700, 2, 28", new OxenKneel().style(1700, 2, 28, 1), 2);
        E.due("1700, 2, 29", new OxenKneel().style(1700, 2, 29, 1), 3);
        E.due("1700, 3, 1", new OxenKneel().style(1700, 3, 1, 1), 4);
    }

    private static void daysOfTheYear() {
        E.sentence("STYLE: the day (what = 0), of the week (1), of its Y (2).");
        E.due("style(1752, 9, 2, 0)", new OxenKneel().style(1752, 9, 2, 0), 17520913);
        E.due("style(1752, 9, 2, 1)", new OxenKneel().style(1752, 9, 2, 1), 2);
        E.due("style(1752, 9, 2, 2)", new OxenKneel().style(1752, 9, 2, 2), 257);
        E.changesNothing("style(1752, 9, 2, 0)", x -> x.style(1752, 9, 2, 0));
    }

    private static void styleRefused() {
        E.sentence("OUTSIDE: a day that there is not, what.");
        for (int far : FAR) {
            styleRefusedAt(far, 9, 2);
            styleRefusedAt(1752, far, 2);
            styleRefusedAt(1752, 9, far);
        }
        styleRefusedAt(1752, 0, 2);
        styleRefusedAt(1752, 13, 2);
        styleRefusedAt(0, 9, 2);
        for (int what : new int[] {-1, 3, FAR[0], FAR[1]}) {
            E.refused("style(1752, 9, 2, " + what + ")", OxenKneel.OUTSIDE, x -> x.style(1752, 9, 2, what));
        }
    }

    // ---- promise 16

    private static void packDue(int minutes, int worths, int n, int m, int worth, int which) {
        String row = minutes + ", " + worths + ", " + n + ", " + m;
        E.due("pack(" + row + ", 0)", new OxenKneel().pack(minutes, worths, n, m, 0), worth);
        E.due("pack(" + row + ", 1)", new OxenKneel().pack(minutes, worths, n, m, 1), which);
    }

    private static void packDoings() {
        E.sentence("PACK: of n doings (1 to 9), that take minutes as a row of digits tells (1 to 9), and are worth as "
            + "another row tells (1 to 9)");
        packDue(1, 9, 1, 99, 9, 1);
        packDue(9, 1, 1, 99, 1, 1);
        packDue(123456789, 987654321, 9, 99, 45, 511);
        packDue(123456789, 987654321, 9, 45, 45, 511);
        packDue(123456789, 987654321, 9, 44, 44, 255);
        E.sentence("PACK: worth (what = 0), which (1).");
        packDue(19, 91, 2, 1, 9, 1);
        packDue(91, 19, 2, 1, 9, 2);
    }

    private static void packTaken() {
        E.sentence("such as fit into m minutes (0 to 99): the most they are worth in all");
        packDue(1, 1, 1, 0, 0, 0);
        packDue(1, 1, 1, 1, 1, 1);
        packDue(9, 9, 1, 8, 0, 0);
        packDue(9, 9, 1, 9, 9, 1);
        packDue(9, 9, 1, 99, 9, 1);
        packDue(999999999, 999999999, 9, 0, 0, 0);
        packDue(999999999, 999999999, 9, 80, 72, 255);
        packDue(999999999, 999999999, 9, 81, 81, 511);
        packDue(999999999, 999999999, 9, 99, 81, 511);
        packDue(111111111, 111111111, 9, 9, 9, 511);
        packDue(111111111, 111111111, 9, 8, 8, 255);
        // The last of nine alone fits, and the first alone.
        packDue(999999991, 111111119, 9, 1, 9, 256);
        packDue(199999999, 911111111, 9, 1, 9, 1);
        E.changesNothing("pack(314159265, 271828182, 9, 20, 0)", x -> x.pack(314159265, 271828182, 9, 20, 0));
    }

    private static void packLeast() {
        E.sentence("which, least as bits of as much (bit i: the i-th, the first one being 0)");
        packDue(111, 555, 3, 1, 5, 1);
        packDue(111, 555, 3, 2, 10, 3);
        packDue(311, 312, 3, 3, 3, 1);
        packDue(112, 123, 3, 2, 3, 3);
        packDue(21, 12, 2, 2, 2, 2);
        packDue(12, 21, 2, 1, 2, 1);
    }

    private static void packRefused() {
        E.sentence("OUTSIDE: n, a digit 0, other than n digits, m, what.");
        int[][] wrong = {
            {1, 1, 0, 1, 0}, {0, 0, 0, 1, 0}, {1, 1, -1, 1, 0}, {1111111111, 1111111111, 10, 1, 0},
            {1, 1, FAR[0], 1, 0}, {1, 1, FAR[1], 1, 0},
            {10, 11, 2, 1, 0}, {11, 10, 2, 1, 0}, {101, 111, 3, 1, 0}, {111, 101, 3, 1, 0}, {0, 1, 1, 1, 0},
            {1, 0, 1, 1, 0}, {110, 111, 3, 1, 0}, {100000000, 111111111, 9, 1, 0},
            {1, 11, 2, 1, 0}, {11, 1, 2, 1, 0}, {111, 11, 2, 1, 0}, {11, 111, 2, 1, 0}, {11, 11, 1, 1, 0},
            {11111111, 111111111, 9, 1, 0}, {111111111, 11111111, 9, 1, 0}, {1111111111, 111111111, 9, 1, 0},
            {111111111, 1111111111, 9, 1, 0}, {-11, 11, 2, 1, 0}, {11, -11, 2, 1, 0}, {-1, 1, 1, 1, 0},
            {FAR[0], 11, 2, 1, 0}, {11, FAR[0], 2, 1, 0}, {FAR[1], 111111111, 9, 1, 0}, {111111111, FAR[1], 9, 1, 0},
            {11, 11, 2, -1, 0}, {11, 11, 2, 100, 0}, {11, 11, 2, FAR[0], 0}, {11, 11, 2, FAR[1], 0},
            {11, 11, 2, 1, -1}, {11, 11, 2, 1, 2}, {11, 11, 2, 1, FAR[0]}, {11, 11, 2, 1, FAR[1]}};
        for (int[] w : wrong) {
            E.refused("pack(" + w[0] + ", " + w[1] + ", " + w[2] + ", " + w[3] + ", " + w[4] + ")", OxenKneel.OUTSIDE,
                x -> x.pack(w[0], w[1], w[2], w[3], w[4]));
        }
    }
}
