import java.math.BigInteger;
import java.util.ArrayList;
import java.util.Arrays;
import java.util.Date;
import java.util.GregorianCalendar;
import java.util.List;
import java.util.TimeZone;
import java.util.TreeSet;
import java.util.regex.Matcher;
import java.util.regex.Pattern;

/**
 * The document told a second time, by the slowest and plainest means there are (hours that pass one by one, texts by
 * patterns, calendars and great numbers of the library), so that it shares no thought with the class.
 */
final class Model {
    static final int NONE = -6, UNKNOWN = -1, OUTSIDE = -2, STATE = -3, FULL = -4, NO = -5;
    static final long LOST = -1000000000000000000L;

    private static final Pattern ACT = Pattern.compile("([A-F])([()<>%]|\\$[1-9])|([hd])([1-9])|k");
    private static final Pattern YEARS = Pattern.compile("([A-F]([()<>%]|\\$[1-9])|[hd][1-9]|k)*");
    private static final String[] WAYS_TO_END = {"", "(", "1", "$1"};

    /** All but the pad. */
    private static final class All implements Cloneable {
        int date = 0, hour = 0, year = 0, shift = 11, kneel = 358;
        int[] place = {NONE, NONE, NONE, NONE, NONE, NONE};
        int[] coin = {10, 10, 10, 10, 10, 10};
        int[] lies = new int[30];
        List<int[]> sights = new ArrayList<>();

        @Override
        protected All clone() {
            try {
                All copy = (All) super.clone();
                copy.place = place.clone();
                copy.coin = coin.clone();
                copy.lies = lies.clone();
                copy.sights = new ArrayList<>(sights);
                return copy;
            } catch (CloneNotSupportedException never) {
                throw new IllegalStateException(never);
            }
        }

        boolean kneeling() {
            return date == kneel && hour == 0;
        }

        void tick() {
            hour++;
            if (hour == 24) {
                hour = 0;
                date++;
            }
            if (date == 365) {
                date = 0;
                year++;
            }
        }

        /** Does the act and answers 0, or answers why it can not be. */
        int act(String act) {
            switch (act.charAt(0)) {
                case 'h': return pass(act.charAt(1) - '0');
                case 'd': return pass(24 * (act.charAt(1) - '0'));
                case 'k': return passToKneeling();
                default: return actOf(act.charAt(0) - 'A', act.substring(1));
            }
        }

        private int pass(int hours) {
            All was = clone();
            for (int i = 0; i < hours; i++) {
                tick();
            }
            return orBack(was);
        }

        private int passToKneeling() {
            All was = clone();
            do {
                tick();
            } while (!kneeling());
            return orBack(was);
        }

        private int orBack(All was) {
            if (year <= 99) {
                return 0;
            }
            date = was.date;
            hour = was.hour;
            year = was.year;
            return 7;
        }

        private int actOf(int who, String deed) {
            TreeSet<Integer> why = new TreeSet<>();
            boolean within = place[who] != NONE;
            char sign = deed.charAt(0);
            if (within == (sign == '(')) {
                why.add(1);
            }
            if ((sign == '(' || sign == ')') && !kneeling()) {
                why.add(2);
            }
            if (sign == '(' && shift == 0) {
                why.add(3);
            }
            if (sign == '>' && within && place[who] == shift - 1 || sign == '<' && place[who] == 0) {
                why.add(4);
            }
            if (sign == '$' && coin[who] < deed.charAt(1) - '0') {
                why.add(5);
            }
            if (sign == '%' && within && lies[place[who]] == 0) {
                why.add(6);
            }
            if (!why.isEmpty()) {
                return why.first();
            }
            switch (sign) {
                case '(': place[who] = 0; break;
                case ')': place[who] = NONE; break;
                case '>': place[who] += 1; break;
                case '<': place[who] -= 1; break;
                case '$':
                    coin[who] -= deed.charAt(1) - '0';
                    lies[place[who]] += deed.charAt(1) - '0';
                    break;
                default:
                    coin[who] += lies[place[who]];
                    lies[place[who]] = 0;
                    break;
            }
            return 0;
        }

        TreeSet<Integer> pairs() {
            TreeSet<Integer> pairs = new TreeSet<>();
            for (int a = 0; a < 6; a++) {
                for (int b = a + 1; b < 6; b++) {
                    if (place[a] != NONE && place[a] == place[b]) {
                        pairs.add(10 * a + b);
                    }
                }
            }
            return pairs;
        }

        int within() {
            int bits = 0;
            for (int i = 0; i < 6; i++) {
                bits += place[i] == NONE ? 0 : (int) Math.pow(2, i);
            }
            return bits;
        }

        int allLies() {
            return Arrays.stream(lies).sum();
        }
    }

    private All all = new All();
    private String pad = "";
    private final All[] images = new All[2];

    // What the last telling of the pad came to.
    private All told;
    private int acts, failed, why, met, metTwo;

    int shift(int days) {
        if (days < 0 || days > 30) return OUTSIDE;
        if (all.within() > 0 || all.allLies() > 0) return STATE;
        int was = all.shift;
        all.shift = days;
        return was;
    }

    int kneel(int date) {
        if (date < 0 || date > 364) return OUTSIDE;
        int was = all.kneel;
        all.kneel = date;
        return was;
    }

    int clock(int date, int hour, int year) {
        if (date < 0 || date > 364 || hour < 0 || hour > 23 || year < 0 || year > 99) return OUTSIDE;
        int was = all.date * 10000 + all.hour * 100 + all.year;
        all.date = date;
        all.hour = hour;
        all.year = year;
        return was;
    }

    int person(int person, int coin) {
        if (person < 0 || person > 5) return UNKNOWN;
        if (coin < 0 || coin > 99) return OUTSIDE;
        int was = all.coin[person];
        all.coin[person] = coin;
        return was;
    }

    int say(int sign) {
        if (sign < 33 || sign > 126) return OUTSIDE;
        if (pad.length() == 60) return FULL;
        pad += (char) sign;
        return pad.length();
    }

    int wipe() {
        int was = pad.length();
        pad = "";
        return was;
    }

    int fault() {
        for (int i = 0; i < pad.length(); i++) {
            if (!mayGoOn(pad.substring(0, i + 1))) {
                return i;
            }
        }
        return YEARS.matcher(pad).matches() ? NONE : pad.length();
    }

    private static boolean mayGoOn(String start) {
        for (String end : WAYS_TO_END) {
            if (YEARS.matcher(start + end).matches()) {
                return true;
            }
        }
        return false;
    }

    private void tell() {
        told = all.clone();
        acts = 0;
        failed = why = met = metTwo = NONE;
        Matcher matcher = ACT.matcher(pad);
        while (matcher.find()) {
            TreeSet<Integer> ahead = told.pairs();
            int reason = told.act(matcher.group());
            if (reason != 0) {
                failed = acts;
                why = reason;
                return;
            }
            TreeSet<Integer> anew = told.pairs();
            anew.removeAll(ahead);
            if (met == NONE && !anew.isEmpty()) {
                met = acts;
                metTwo = anew.first();
            }
            acts++;
        }
    }

    private boolean tells() {
        if (fault() != NONE) return false;
        tell();
        return failed == NONE;
    }

    int judge(int what) {
        if (what != 0 && what != 1) return OUTSIDE;
        if (fault() != NONE) return NO;
        tell();
        return what == 0 ? failed : why;
    }

    int done() {
        if (!tells()) return NO;
        all = told;
        pad = "";
        return acts;
    }

    int behind(int person, int what) {
        if (person < 0 || person > 5) return UNKNOWN;
        if (what != 0 && what != 1) return OUTSIDE;
        if (!tells()) return NO;
        return what == 0 ? told.place[person] : told.coin[person];
    }

    int lies(int place) {
        if (place < 0 || place > 29) return OUTSIDE;
        return tells() ? told.lies[place] : NO;
    }

    int then(int what) {
        if (what < 0 || what > 7) return OUTSIDE;
        if (!tells()) return NO;
        int[] answers = {told.date, (told.date + told.shift) % 365, told.hour, told.year, told.within(),
            told.allLies(), met, metTwo};
        return answers[what];
    }

    static int agree(int p, int x, int q, int y) {
        if (p < 1 || p > 999 || q < 1 || q > 999 || x < 0 || x >= p || y < 0 || y >= q) return OUTSIDE;
        int a = 0, b = 0;
        for (int day = 0; day < p * q; day++) {
            if (a == x && b == y) return day;
            a = a + 1 == p ? 0 : a + 1;
            b = b + 1 == q ? 0 : b + 1;
        }
        return NONE;
    }

    static int style(int y, int m, int d, int what) {
        if (y < 1000 || y > 3000 || m < 1 || m > 12 || d < 1 || what < 0 || what > 2) return OUTSIDE;
        int[] days = {31, y % 4 == 0 ? 29 : 28, 31, 30, 31, 30, 31, 31, 30, 31, 30, 31};
        if (d > days[m - 1]) return OUTSIDE;
        GregorianCalendar old = new GregorianCalendar(TimeZone.getTimeZone("UTC"));
        old.setGregorianChange(new Date(Long.MAX_VALUE));
        old.clear();
        old.set(y, m - 1, d);
        GregorianCalendar anew = new GregorianCalendar(TimeZone.getTimeZone("UTC"));
        anew.setGregorianChange(new Date(Long.MIN_VALUE));
        anew.setTimeInMillis(old.getTimeInMillis());
        switch (what) {
            case 0:
                return 10000 * anew.get(GregorianCalendar.YEAR) + 100 * (anew.get(GregorianCalendar.MONTH) + 1)
                    + anew.get(GregorianCalendar.DAY_OF_MONTH);
            case 1:
                return (anew.get(GregorianCalendar.DAY_OF_WEEK) + 5) % 7;
            default:
                return anew.get(GregorianCalendar.DAY_OF_YEAR);
        }
    }

    static int pack(int minutes, int worths, int n, int m, int what) {
        String row = "[1-9]{" + n + "}";
        if (n < 1 || n > 9 || m < 0 || m > 99 || what < 0 || what > 1) return OUTSIDE;
        if (!("" + minutes).matches(row) || !("" + worths).matches(row)) return OUTSIDE;
        int[] best = best("" + minutes, "" + worths, m);
        return best[what];
    }

    /** Of the best that fit: the worth, and the bits, by the last doing left out, or taken. */
    private static int[] best(String minutes, String worths, int m) {
        if (minutes.isEmpty()) return new int[] {0, 0};
        int last = minutes.length() - 1;
        int[] without = best(minutes.substring(0, last), worths.substring(0, last), m);
        int rest = m - (minutes.charAt(last) - '0');
        if (rest < 0) return without;
        int[] with = best(minutes.substring(0, last), worths.substring(0, last), rest);
        int worth = with[0] + worths.charAt(last) - '0';
        return worth > without[0] ? new int[] {worth, with[1] + (1 << last)} : without;
    }

    int seen(int n, boolean rang) {
        if (n < 0 || n > 99) return OUTSIDE;
        if (all.sights.size() == 8) return FULL;
        all.sights.add(new int[] {n, rang ? 1 : 0});
        return all.sights.size();
    }

    int forget() {
        int was = all.sights.size();
        all.sights.clear();
        return was;
    }

    private static boolean rings(int round, int hour) {
        for (int h = round % 100; h < 100; h += round / 100) {
            if (h == hour) return true;
        }
        return false;
    }

    private List<Integer> fitting() {
        List<Integer> fitting = new ArrayList<>();
        for (int round = 200; round <= 2019; round++) {
            boolean fits = round % 100 < round / 100;
            for (int[] sight : all.sights) {
                fits = fits && rings(round, sight[0]) == (sight[1] == 1);
            }
            if (fits) fitting.add(round);
        }
        return fitting;
    }

    int rounds(int i) {
        List<Integer> fitting = fitting();
        if (i == -1) return fitting.size();
        return i < -1 || i >= fitting.size() ? NONE : fitting.get(i);
    }

    int ask(int what) {
        if (what != 0 && what != 1) return OUTSIDE;
        List<Integer> fitting = fitting();
        if (fitting.isEmpty()) return NONE;
        int[] best = {0, Integer.MAX_VALUE};
        for (int hour = 99; hour >= 0; hour--) {
            int[] left = new int[2];
            for (int round : fitting) left[rings(round, hour) ? 1 : 0]++;
            int most = Math.max(left[0], left[1]);
            if (most <= best[1]) best = new int[] {hour, most};
        }
        return best[what];
    }

    private static final boolean[] WON = new boolean[10000];

    static {
        for (int n = 1; n < WON.length; n++) WON[n] = !WON[n - 1] || !WON[n / 2];
    }

    static int halves(int n, int what) {
        if (n < 0 || n > 9999 || what < 0 || what > 1) return OUTSIDE;
        if (what == 0) return WON[n] ? 1 : 0;
        if (n == 0) return NONE;
        if (!WON[n / 2]) return n / 2;
        return !WON[n - 1] ? n - 1 : NONE;
    }

    static long knelt(int n, int k, int t, int what, int part) {
        if (n < 0 || n > 16 || k < 0 || k > n || t < 0 || t > 10 || what < 0 || what > 1 || part < 0 || part > 1) {
            return LOST + OUTSIDE;
        }
        BigInteger[] ways = new BigInteger[n + 2];
        Arrays.fill(ways, BigInteger.ZERO);
        ways[0] = BigInteger.ONE;
        for (int night = 0; night < n; night++) {
            for (int i = n; i >= 0; i--) {
                BigInteger from = i == 0 ? BigInteger.ZERO : ways[i - 1].multiply(BigInteger.valueOf(t));
                ways[i] = ways[i].multiply(BigInteger.valueOf(10 - t)).add(from);
            }
        }
        BigInteger upper = BigInteger.ZERO;
        for (int i = 0; i <= n; i++) {
            int times = what == 1 ? i : i >= k ? 1 : 0;
            upper = upper.add(ways[i].multiply(BigInteger.valueOf(times)));
        }
        BigInteger lower = BigInteger.TEN.pow(n);
        BigInteger gcd = upper.gcd(lower);
        return (part == 0 ? upper : lower).divide(gcd).longValueExact();
    }

    int year(int seed, int m, int what) {
        if (seed < 0 || seed > 9999 || m < 1 || m > 99 || what < 0 || what > 2) return OUTSIDE;
        All drawn = all.clone();
        long x = seed;
        for (int i = 0; i < m; i++) {
            x = (75 * x + 74) % 65537;
            long z = x / 48;
            char who = (char) ('A' + x % 6);
            String[] acts = {who + "(", who + (z % 4 == 0 ? ")" : ">"), who + "<", who + "$" + (1 + z % 9), who + "%",
                "h" + (1 + z % 9), "d" + (1 + z % 9), "k"};
            drawn.act(acts[(int) (x / 6 % 8)]);
        }
        int[] answers = {Integer.bitCount(drawn.within()), drawn.allLies(), drawn.year};
        return answers[what];
    }

    int image(int n) {
        if (n != 0 && n != 1) return OUTSIDE;
        images[n] = all.clone();
        return 1;
    }

    int restore(int n) {
        if (n != 0 && n != 1) return OUTSIDE;
        if (images[n] == null) return STATE;
        all = images[n].clone();
        return 1;
    }

    int told(int what) {
        int[] first = {pad.length(), all.date, all.hour, all.year, all.shift, all.kneel, all.sights.size(),
            all.within()};
        if (what >= 0 && what < 8) return first[what];
        if (what >= 10 && what < 16) return all.place[what - 10];
        if (what >= 20 && what < 26) return all.coin[what - 20];
        if (what >= 30 && what < 60) return all.lies[what - 30];
        return OUTSIDE;
    }
}
