/** Promises 14 to 16: agree, style, pack. */
public final class RoundsTest {
    private static final Check CHECK = new Check();

    public static void main(String[] args) {
        agree();
        styleOfEachDay();
        styleOutside();
        pack();
        CHECK.finish();
    }

    private static void due(String call, long got, long want) {
        CHECK.due(call, got, want);
    }

    /** An object each: they are promised for 512 calls alone. */
    private static OxenKneel x() {
        return new OxenKneel();
    }

    private static void agree() {
        for (int p = 1; p <= 16; p++) {
            for (int q = 1; q <= 16; q++) {
                for (int x = -1; x <= p; x++) {
                    for (int y = -1; y <= q; y++) {
                        String call = "agree(" + p + ", " + x + ", " + q + ", " + y + ")";
                        due(call, x().agree(p, x, q, y), Model.agree(p, x, q, y));
                    }
                }
            }
        }
        due("agree, the last day", x().agree(999, 998, 998, 997), 999 * 998 - 1);
        due("agree, alike", x().agree(999, 998, 999, 998), 998);
        due("agree, never", x().agree(999, 998, 999, 997), OxenKneel.NONE);
        due("p 0", x().agree(0, 0, 1, 0), OxenKneel.OUTSIDE);
        due("p 1000", x().agree(1000, 0, 1, 0), OxenKneel.OUTSIDE);
        due("q 0", x().agree(1, 0, 0, 0), OxenKneel.OUTSIDE);
        due("q 1000", x().agree(1, 0, 1000, 0), OxenKneel.OUTSIDE);
        due("least ints", x().agree(Integer.MIN_VALUE, 0, Integer.MIN_VALUE, 0), OxenKneel.OUTSIDE);
        due("most ints", x().agree(5, Integer.MAX_VALUE, 5, Integer.MAX_VALUE), OxenKneel.OUTSIDE);
    }

    private static void styleOfEachDay() {
        for (int y = 1000; y <= 3000; y += y % 100 > 1 && y % 100 < 99 ? 7 : 1) {
            for (int m = 1; m <= 12; m++) {
                for (int d = 0; d <= 32; d++) {
                    for (int what = 0; what <= 2; what++) {
                        String call = "style(" + y + ", " + m + ", " + d + ", " + what + ")";
                        due(call, x().style(y, m, d, what), Model.style(y, m, d, what));
                    }
                }
            }
        }
        due("style, last day of all", x().style(3000, 12, 31, 0), 30010121);
        due("style, first day of all", x().style(1000, 1, 1, 0), 10000106);
    }

    private static void styleOutside() {
        int[][] wrong = {{999, 12, 31, 0}, {3001, 1, 1, 0}, {1752, 0, 1, 0}, {1752, 13, 1, 0}, {1752, 4, 31, 0},
            {1751, 2, 29, 0}, {1752, 2, 30, 0}, {1752, 9, 2, -1}, {1752, 9, 2, 3}, {1752, 9, -1, 0},
            {-1752, 9, 2, 0}, {1752, Integer.MIN_VALUE, 2, 0}, {1752, Integer.MAX_VALUE, 2, 0}};
        for (int[] w : wrong) {
            due("style outside " + w[0] + " " + w[1] + " " + w[2], x().style(w[0], w[1], w[2], w[3]),
                OxenKneel.OUTSIDE);
        }
    }

    private static void pack() {
        int[][] rows = {{1, 1, 1}, {9, 9, 1}, {321, 432, 3}, {111, 555, 3}, {123456789, 987654321, 9},
            {999999999, 999999999, 9}, {314159265, 271828182, 9}, {2222, 1111, 4}, {11, 12, 2}, {12, 33, 2},
            // not as told: a digit 0, other than n digits, a sign
            {10, 11, 2}, {11, 10, 2}, {101, 111, 3}, {1, 11, 2}, {11, 1, 2}, {111, 11, 2}, {11, 111, 2}, {0, 0, 1},
            {-11, 11, 2}, {11, -11, 2}, {1, 1, 0}, {1, 1, -1}, {1111111111, 1111111111, 10},
            {1111111111, 111111111, 9}, {Integer.MIN_VALUE, Integer.MAX_VALUE, 9}};
        for (int[] row : rows) {
            for (int m = -1; m <= 100; m++) {
                for (int what = -1; what <= 2; what++) {
                    String call = "pack(" + row[0] + ", " + row[1] + ", " + row[2] + ", " + m + ", " + what + ")";
                    due(call, x().pack(row[0], row[1], row[2], m, what), Model.pack(row[0], row[1], row[2], m, what));
                }
            }
        }
        due("pack, all of nine", x().pack(999999999, 999999999, 9, 81, 1), 511);
        due("pack, one short", x().pack(999999999, 999999999, 9, 80, 1), 255);
    }
}
