/**
 * Days by two counts, persons outside or within the days that were struck out, and the years told of them.
 * The document ../shared/DOC.md says what each call answers; the words of this file are its words.
 */
public final class OxenKneel {
    public static final int NONE = -6, UNKNOWN = -1, OUTSIDE = -2, STATE = -3, FULL = -4, NO = -5;
    public static final long LOST = -1000000000000000000L;

    private static final int PERSONS = 6;
    private static final int PLACES = 30;
    private static final int MOST_COIN = 99;
    private static final int HOURS = 24;
    private static final int DAYS = 365;
    private static final int YEARS = 100;
    private static final int MOST_SIGNS = 60;
    private static final int FIRST_SIGN = 33;
    private static final int LAST_SIGN = 126;

    private static final int MOST_ROUND = 999;
    private static final int FIRST_STYLE_YEAR = 1000;
    private static final int LAST_STYLE_YEAR = 3000;
    private static final int MONTHS = 12;
    private static final int FEBRUARY = 2;
    private static final int[] MONTH_DAYS = {31, 28, 31, 30, 31, 30, 31, 31, 30, 31, 30, 31};
    private static final int MOST_DOINGS = 9;
    private static final int MOST_MINUTES = 99;

    private static final int MOST_SIGHTS = 8;
    private static final int LEAST_BELL = 2;
    private static final int MOST_BELL = 20;
    private static final int BELL_HOURS = 100;
    private static final int MOST_HALVED = 9999;
    private static final int MOST_NIGHTS = 16;
    private static final int MOST_SEED = 9999;
    private static final int MOST_DRAWS = 99;
    private static final int IMAGES = 2;

    private final World now = new World();
    private final Sights sights = new Sights();
    private final Pad pad = new Pad();
    private final Tale tale = new Tale();
    private final Image[] images = new Image[IMAGES];

    public OxenKneel() {
        for (int i = 0; i < images.length; i++) {
            images[i] = new Image();
        }
    }

    // ---- 1 counts, persons, years

    public int shift(int days) {
        if (!isIn(days, 0, PLACES)) {
            return OUTSIDE;
        }
        if (now.whoIsWithin() != 0 || now.liesInAll() != 0) {
            return STATE;
        }
        int was = now.shift;
        now.shift = days;
        return was;
    }

    public int kneel(int date) {
        if (!isIn(date, 0, DAYS - 1)) {
            return OUTSIDE;
        }
        int was = now.kneelDate;
        now.kneelDate = date;
        return was;
    }

    public int clock(int date, int hour, int year) {
        if (!isIn(date, 0, DAYS - 1) || !isIn(hour, 0, HOURS - 1) || !isIn(year, 0, YEARS - 1)) {
            return OUTSIDE;
        }
        int was = 10000 * now.date + 100 * now.hour + now.year;
        now.date = date;
        now.hour = hour;
        now.year = year;
        return was;
    }

    public int person(int person, int coin) {
        if (!isPerson(person)) {
            return UNKNOWN;
        }
        if (!isIn(coin, 0, MOST_COIN)) {
            return OUTSIDE;
        }
        int was = now.coins[person];
        now.coins[person] = coin;
        return was;
    }

    public int say(int sign) {
        if (!isIn(sign, FIRST_SIGN, LAST_SIGN)) {
            return OUTSIDE;
        }
        return pad.add(sign) ? pad.count : FULL;
    }

    public int wipe() {
        int was = pad.count;
        pad.count = 0;
        return was;
    }

    public int fault() {
        return pad.firstFault();
    }

    // ---- 2 years

    public int judge(int what) {
        if (!isIn(what, 0, 1)) {
            return OUTSIDE;
        }
        if (pad.firstFault() != NONE) {
            return NO;
        }
        tale.tell(now, pad);
        return what == 0 ? tale.failedAct : tale.failedWhy;
    }

    public int done() {
        if (!canBeTold()) {
            return NO;
        }
        now.become(tale.world);
        pad.count = 0;
        return tale.acts;
    }

    public int behind(int person, int what) {
        if (!isPerson(person)) {
            return UNKNOWN;
        }
        if (!isIn(what, 0, 1)) {
            return OUTSIDE;
        }
        if (!canBeTold()) {
            return NO;
        }
        return what == 0 ? tale.world.places[person] : tale.world.coins[person];
    }

    public int lies(int place) {
        if (!isIn(place, 0, PLACES - 1)) {
            return OUTSIDE;
        }
        return canBeTold() ? tale.world.lying[place] : NO;
    }

    public int then(int what) {
        if (!isIn(what, 0, 7)) {
            return OUTSIDE;
        }
        if (!canBeTold()) {
            return NO;
        }
        switch (what) {
            case 0: return tale.world.date;
            case 1: return tale.world.dateByNewCount();
            case 2: return tale.world.hour;
            case 3: return tale.world.year;
            case 4: return tale.world.whoIsWithin();
            case 5: return tale.world.liesInAll();
            case 6: return tale.metAct;
            default: return tale.metTwo;
        }
    }

    /** Tells the pad's years on the tale's own world, so that nothing is done in fact. */
    private boolean canBeTold() {
        if (pad.firstFault() != NONE) {
            return false;
        }
        tale.tell(now, pad);
        return tale.failedAct == NONE;
    }

    // ---- 3 rounds, styles, packing

    public int agree(int p, int x, int q, int y) {
        if (!isIn(p, 1, MOST_ROUND) || !isIn(x, 0, p - 1) || !isIn(q, 1, MOST_ROUND) || !isIn(y, 0, q - 1)) {
            return OUTSIDE;
        }
        // Behind p times q days both rounds are as they are now: nothing new can come from there on.
        for (int days = x; days < p * q; days += p) {
            if (days % q == y) {
                return days;
            }
        }
        return NONE;
    }

    public int style(int y, int m, int d, int what) {
        if (!isOldDay(y, m, d) || !isIn(what, 0, 2)) {
            return OUTSIDE;
        }
        int number = oldDayNumber(y, m, d);
        if (what == 1) {
            return (number - 1) % 7;
        }
        int newYear = number > newDaysAhead(y + 1) ? y + 1 : y;
        int dayOfYear = number - newDaysAhead(newYear);
        return what == 0 ? newStyleDay(newYear, dayOfYear) : dayOfYear;
    }

    private static boolean isOldDay(int y, int m, int d) {
        return isIn(y, FIRST_STYLE_YEAR, LAST_STYLE_YEAR) && isIn(m, 1, MONTHS)
            && isIn(d, 1, monthDays(m, isOldLeap(y)));
    }

    private static boolean isOldLeap(int y) {
        return y % 4 == 0;
    }

    private static boolean isNewLeap(int y) {
        return y % 4 == 0 && (y % 100 != 0 || y % 400 == 0);
    }

    private static int monthDays(int m, boolean leap) {
        if (!isIn(m, 1, MONTHS)) {
            return 0;
        }
        return m == FEBRUARY && leap ? MONTH_DAYS[m - 1] + 1 : MONTH_DAYS[m - 1];
    }

    /**
     * Days are numbered by the new style, the first day of its year 1 (a Monday) being 1. The old style's first day
     * of its year 1 is two days ahead of that: so the second of September 1752 comes to be the thirteenth.
     */
    private static int oldDayNumber(int y, int m, int d) {
        int number = 365 * (y - 1) + (y - 1) / 4 + d - 2;
        for (int month = 1; month < m; month++) {
            number += monthDays(month, isOldLeap(y));
        }
        return number;
    }

    private static int newDaysAhead(int y) {
        return 365 * (y - 1) + (y - 1) / 4 - (y - 1) / 100 + (y - 1) / 400;
    }

    private static int newStyleDay(int newYear, int dayOfYear) {
        boolean leap = isNewLeap(newYear);
        int month = 1;
        int day = dayOfYear;
        while (month < MONTHS && day > monthDays(month, leap)) {
            day -= monthDays(month, leap);
            month++;
        }
        return 10000 * newYear + 100 * month + day;
    }

    public int pack(int minutes, int worths, int n, int m, int what) {
        if (!isIn(n, 1, MOST_DOINGS) || !isRow(minutes, n) || !isRow(worths, n)
            || !isIn(m, 0, MOST_MINUTES) || !isIn(what, 0, 1)) {
            return OUTSIDE;
        }
        int most = 0;
        int which = 0;
        for (int bits = 1; bits < 1 << n; bits++) {
            int worth = sumOfChosen(worths, n, bits);
            if (worth > most && sumOfChosen(minutes, n, bits) <= m) {
                most = worth;
                which = bits;
            }
        }
        return what == 0 ? most : which;
    }

    private static boolean isRow(int row, int n) {
        int rest = row;
        for (int i = 0; i < n; i++) {
            if (rest % 10 <= 0) {
                return false;
            }
            rest /= 10;
        }
        return rest == 0;
    }

    /** The first digit of the row is told by bit 0, so the last one, which is at hand first, by bit n less 1. */
    private static int sumOfChosen(int row, int n, int bits) {
        int sum = 0;
        int rest = row;
        for (int i = n - 1; i >= 0; i--) {
            if ((bits >> i & 1) == 1) {
                sum += rest % 10;
            }
            rest /= 10;
        }
        return sum;
    }

    // ---- 4 bells, halves, kneeling

    public int seen(int n, boolean rang) {
        if (!isIn(n, 0, BELL_HOURS - 1)) {
            return OUTSIDE;
        }
        return sights.add(n, rang) ? sights.count : FULL;
    }

    public int forget() {
        int was = sights.count;
        sights.count = 0;
        return was;
    }

    public int rounds(int i) {
        return i == -1 ? sights.fittingRounds() : sights.fittingRound(i);
    }

    public int ask(int what) {
        if (!isIn(what, 0, 1)) {
            return OUTSIDE;
        }
        int fitting = sights.fittingRounds();
        if (fitting == 0) {
            return NONE;
        }
        int bestHour = 0;
        int fewest = fitting + 1;
        for (int hour = 0; hour < BELL_HOURS; hour++) {
            int ringing = sights.roundsRingingAt(hour);
            int left = Math.max(ringing, fitting - ringing);
            if (left < fewest) {
                fewest = left;
                bestHour = hour;
            }
        }
        return what == 0 ? bestHour : fewest;
    }

    public int halves(int n, int what) {
        if (!isIn(n, 0, MOST_HALVED) || !isIn(what, 0, 1)) {
            return OUTSIDE;
        }
        boolean wins = canWin(n);
        if (what == 0) {
            return wins ? 1 : 0;
        }
        if (!wins) {
            return NONE;
        }
        return canWin(n / 2) ? n - 1 : n / 2;
    }

    /**
     * Each odd number is won: 1 leaves 0, and of 2j + 1 either j is lost or 2j is. So an even one, which leaves an odd
     * one or its half, is won just if its half is lost; and with each halving it turns, down to an odd one.
     */
    private static boolean canWin(int n) {
        boolean wins = n > 0;
        for (int rest = n; rest > 0 && rest % 2 == 0; rest /= 2) {
            wins = !wins;
        }
        return wins;
    }

    public long knelt(int n, int k, int t, int what, int part) {
        if (!isIn(n, 0, MOST_NIGHTS) || !isIn(k, 0, n) || !isIn(t, 0, 10) || !isIn(what, 0, 1) || !isIn(part, 0, 1)) {
            return LOST + OUTSIDE;
        }
        long upper = what == 0 ? waysToKneel(n, k, t) : (long) n * t;
        long lower = what == 0 ? power(10, n) : 10;
        long common = commonDivisor(upper, lower);
        if (common <= 0) {
            return LOST;
        }
        return part == 0 ? upper / common : lower / common;
    }

    /** Of 10 to the n equal cases, those in which they kneel in k nights at least. */
    private static long waysToKneel(int n, int k, int t) {
        long ways = 0;
        for (int i = k; i <= n; i++) {
            ways += choices(n, i) * power(t, i) * power(10 - t, n - i);
        }
        return ways;
    }

    private static long choices(int n, int k) {
        long ways = 1;
        for (int i = 1; i <= k; i++) {
            ways = ways * (n - k + i) / i;
        }
        return ways;
    }

    private static long power(int base, int exponent) {
        long power = 1;
        for (int i = 0; i < exponent; i++) {
            power *= base;
        }
        return power;
    }

    private static long commonDivisor(long a, long b) {
        long greater = a;
        long lesser = b;
        // Two numbers of 10 to the 16 at most need fewer than 80 steps.
        for (int i = 0; i < 100 && lesser != 0; i++) {
            long rest = greater % lesser;
            greater = lesser;
            lesser = rest;
        }
        return greater;
    }

    public int year(int seed, int m, int what) {
        if (!isIn(seed, 0, MOST_SEED) || !isIn(m, 1, MOST_DRAWS) || !isIn(what, 0, 2)) {
            return OUTSIDE;
        }
        tale.tellByDraws(now, seed, m);
        switch (what) {
            case 0: return Integer.bitCount(tale.world.whoIsWithin());
            case 1: return tale.world.liesInAll();
            default: return tale.world.year;
        }
    }

    public int image(int n) {
        if (!isIn(n, 0, IMAGES - 1)) {
            return OUTSIDE;
        }
        images[n].world.become(now);
        images[n].sights.become(sights);
        images[n].isKept = true;
        return 1;
    }

    public int restore(int n) {
        if (!isIn(n, 0, IMAGES - 1)) {
            return OUTSIDE;
        }
        if (!images[n].isKept) {
            return STATE;
        }
        now.become(images[n].world);
        sights.become(images[n].sights);
        return 1;
    }

    public int told(int what) {
        if (isIn(what, 10, 10 + PERSONS - 1)) {
            return now.places[what - 10];
        }
        if (isIn(what, 20, 20 + PERSONS - 1)) {
            return now.coins[what - 20];
        }
        if (isIn(what, 30, 30 + PLACES - 1)) {
            return now.lying[what - 30];
        }
        switch (what) {
            case 0: return pad.count;
            case 1: return now.date;
            case 2: return now.hour;
            case 3: return now.year;
            case 4: return now.shift;
            case 5: return now.kneelDate;
            case 6: return sights.count;
            case 7: return now.whoIsWithin();
            default: return OUTSIDE;
        }
    }

    private static boolean isIn(int number, int least, int most) {
        return number >= least && number <= most;
    }

    private static boolean isPerson(int person) {
        return isIn(person, 0, PERSONS - 1);
    }

    /** One act of a year: its sign, and, where that has them, the person and the number. */
    private static final class Act {
        int sign;
        int person;
        int number;

        void becomeDrawn(int x) {
            int z = x / 48;
            person = x % PERSONS;
            number = 1 + z % 9;
            switch (x / 6 % 8) {
                case 0: sign = '('; break;
                case 1: sign = z % 4 == 0 ? ')' : '>'; break;
                case 2: sign = '<'; break;
                case 3: sign = '$'; break;
                case 4: sign = '%'; break;
                case 5: sign = 'h'; break;
                case 6: sign = 'd'; break;
                default: sign = 'k'; break;
            }
        }
    }

    /** The counts, the persons, and the coin that lies within. */
    private static final class World {
        int date = 0;
        int hour = 0;
        int year = 0;
        int shift = 11;
        int kneelDate = 358;
        final int[] places = new int[PERSONS];
        final int[] coins = new int[PERSONS];
        final int[] lying = new int[PLACES];

        World() {
            for (int i = 0; i < PERSONS; i++) {
                places[i] = NONE;
                coins[i] = 10;
            }
        }

        void become(World other) {
            date = other.date;
            hour = other.hour;
            year = other.year;
            shift = other.shift;
            kneelDate = other.kneelDate;
            System.arraycopy(other.places, 0, places, 0, PERSONS);
            System.arraycopy(other.coins, 0, coins, 0, PERSONS);
            System.arraycopy(other.lying, 0, lying, 0, PLACES);
        }

        int dateByNewCount() {
            return (date + shift) % DAYS;
        }

        int whoIsWithin() {
            int bits = 0;
            for (int i = 0; i < PERSONS; i++) {
                if (places[i] != NONE) {
                    bits |= 1 << i;
                }
            }
            return bits;
        }

        int liesInAll() {
            int sum = 0;
            for (int i = 0; i < PLACES; i++) {
                sum += lying[i];
            }
            return sum;
        }

        boolean kneelNow() {
            return date == kneelDate && hour == 0;
        }

        /** Why the act can not be; 0 if it can. */
        int reasonAgainst(Act act) {
            switch (act.sign) {
                case 'h':
                case 'd':
                case 'k':
                    return timeBehind(act) < YEARS * DAYS * HOURS ? 0 : 7;
                case '(':
                    return reasonAgainstSteppingOver(act.person);
                default:
                    return reasonAgainstActWithin(act);
            }
        }

        private int reasonAgainstSteppingOver(int person) {
            if (!isPerson(person) || places[person] != NONE) {
                return 1;
            }
            if (!kneelNow()) {
                return 2;
            }
            return shift > 0 ? 0 : 3;
        }

        private int reasonAgainstActWithin(Act act) {
            if (!isPerson(act.person) || !isIn(places[act.person], 0, PLACES - 1)) {
                return 1;
            }
            int place = places[act.person];
            switch (act.sign) {
                case ')': return kneelNow() ? 0 : 2;
                case '>': return place + 1 < shift ? 0 : 4;
                case '<': return place > 0 ? 0 : 4;
                case '$': return coins[act.person] >= act.number ? 0 : 5;
                default: return lying[place] > 0 ? 0 : 6;
            }
        }

        /** The act must be one that nothing stands against. */
        void perform(Act act) {
            switch (act.sign) {
                case 'h':
                case 'd':
                case 'k':
                    setTime(timeBehind(act));
                    break;
                default:
                    performByPerson(act);
                    break;
            }
        }

        private void performByPerson(Act act) {
            int person = act.person;
            if (!isPerson(person)) {
                return;
            }
            switch (act.sign) {
                case '(': places[person] = 0; break;
                case ')': places[person] = NONE; break;
                case '>': places[person]++; break;
                case '<': places[person]--; break;
                case '$': moveCoin(person, act.number); break;
                default: moveCoin(person, -liesBy(person)); break;
            }
        }

        private int liesBy(int person) {
            int place = places[person];
            return isIn(place, 0, PLACES - 1) ? lying[place] : 0;
        }

        private void moveCoin(int person, int left) {
            int place = places[person];
            if (isIn(place, 0, PLACES - 1)) {
                coins[person] -= left;
                lying[place] += left;
            }
        }

        /** Times are hours from the first hour of year 0 on: so dates and years carry by themselves. */
        private int timeBehind(Act act) {
            switch (act.sign) {
                case 'h': return timeOf(year, date, hour) + act.number;
                case 'd': return timeOf(year, date, hour) + act.number * HOURS;
                default: return timeOf(date < kneelDate ? year : year + 1, kneelDate, 0);
            }
        }

        private static int timeOf(int year, int date, int hour) {
            return (year * DAYS + date) * HOURS + hour;
        }

        private void setTime(int time) {
            hour = time % HOURS;
            date = time / HOURS % DAYS;
            year = time / HOURS / DAYS;
        }

        /** With whom the person is at one place within: the least two, as they are told; NONE. */
        int leastTwoWith(int person) {
            if (!isPerson(person) || places[person] == NONE) {
                return NONE;
            }
            for (int other = 0; other < PERSONS; other++) {
                if (other != person && places[other] == places[person]) {
                    return 10 * Math.min(other, person) + Math.max(other, person);
                }
            }
            return NONE;
        }
    }

    /** The signs that years are told by. */
    private static final class Pad {
        int count = 0;
        private final int[] signs = new int[MOST_SIGNS];

        boolean add(int sign) {
            if (!isIn(count, 0, MOST_SIGNS - 1)) {
                return false;
            }
            signs[count] = sign;
            count++;
            return true;
        }

        private int signAt(int i) {
            return isIn(i, 0, Math.min(count, MOST_SIGNS) - 1) ? signs[i] : 0;
        }

        private int digitAt(int i) {
            return signAt(i) - '0';
        }

        int firstFault() {
            boolean needsDeed = false;
            boolean needsDigit = false;
            for (int i = 0; i < count; i++) {
                int sign = signAt(i);
                if (needsDigit) {
                    if (!isIn(sign, '1', '9')) {
                        return i;
                    }
                    needsDigit = false;
                } else if (needsDeed) {
                    if (!isDeed(sign)) {
                        return i;
                    }
                    needsDeed = false;
                    needsDigit = sign == '$';
                } else {
                    needsDeed = isLetter(sign);
                    needsDigit = sign == 'h' || sign == 'd';
                    if (!needsDeed && !needsDigit && sign != 'k') {
                        return i;
                    }
                }
            }
            return needsDeed || needsDigit ? count : NONE;
        }

        private static boolean isLetter(int sign) {
            return isIn(sign, 'A', 'A' + PERSONS - 1);
        }

        private static boolean isDeed(int sign) {
            return sign == '(' || sign == ')' || sign == '>' || sign == '<' || sign == '$' || sign == '%';
        }

        /** Reads the act that begins at a place; answers the place behind it. There must be no fault. */
        int readAct(int from, Act act) {
            int at = from;
            if (isLetter(signAt(at))) {
                act.person = signAt(at) - 'A';
                at++;
            }
            act.sign = signAt(at);
            at++;
            if (act.sign == '$' || act.sign == 'h' || act.sign == 'd') {
                act.number = digitAt(at);
                at++;
            }
            return at;
        }
    }

    /** Years told on a world of their own. */
    private static final class Tale {
        final World world = new World();
        int acts = 0;
        int failedAct = NONE;
        int failedWhy = NONE;
        int metAct = NONE;
        int metTwo = NONE;
        private final Act act = new Act();

        void tell(World from, Pad pad) {
            world.become(from);
            acts = 0;
            failedAct = NONE;
            failedWhy = NONE;
            metAct = NONE;
            metTwo = NONE;
            for (int at = 0; at < pad.count && acts < MOST_SIGNS; acts++) {
                at = pad.readAct(at, act);
                int reason = world.reasonAgainst(act);
                if (reason != 0) {
                    failedAct = acts;
                    failedWhy = reason;
                    return;
                }
                world.perform(act);
                noteFirstMeeting();
            }
        }

        /** Who has just moved was elsewhere ahead of it: all that are at the new place are met anew. */
        private void noteFirstMeeting() {
            boolean hasMoved = act.sign == '(' || act.sign == '>' || act.sign == '<';
            if (metAct != NONE || !hasMoved) {
                return;
            }
            metTwo = world.leastTwoWith(act.person);
            if (metTwo != NONE) {
                metAct = acts;
            }
        }

        void tellByDraws(World from, int seed, int draws) {
            world.become(from);
            int x = seed;
            for (int i = 0; i < draws; i++) {
                x = (75 * x + 74) % 65537;
                act.becomeDrawn(x);
                if (world.reasonAgainst(act) == 0) {
                    world.perform(act);
                }
            }
        }
    }

    /** When the bell was heard, or was not; and the rounds by which that is so. */
    private static final class Sights {
        int count = 0;
        private final int[] hours = new int[MOST_SIGHTS];
        private final boolean[] rang = new boolean[MOST_SIGHTS];

        void become(Sights other) {
            count = other.count;
            for (int i = 0; i < MOST_SIGHTS; i++) {
                hours[i] = other.hours[i];
                rang[i] = other.rang[i];
            }
        }

        boolean add(int hour, boolean hasRung) {
            if (!isIn(count, 0, MOST_SIGHTS - 1)) {
                return false;
            }
            hours[count] = hour;
            rang[count] = hasRung;
            count++;
            return true;
        }

        /** As r is below p, no hour ahead of the first ring is left over by p as r is. */
        private boolean fits(int p, int r) {
            if (p <= 0) {
                return false;
            }
            for (int i = 0; i < count && i < MOST_SIGHTS; i++) {
                if (rang[i] != (hours[i] % p == r)) {
                    return false;
                }
            }
            return true;
        }

        int fittingRounds() {
            int fitting = 0;
            for (int p = LEAST_BELL; p <= MOST_BELL; p++) {
                for (int r = 0; r < p; r++) {
                    if (fits(p, r)) {
                        fitting++;
                    }
                }
            }
            return fitting;
        }

        int fittingRound(int i) {
            int ahead = 0;
            for (int p = LEAST_BELL; p <= MOST_BELL; p++) {
                for (int r = 0; r < p; r++) {
                    if (fits(p, r)) {
                        if (ahead == i) {
                            return 100 * p + r;
                        }
                        ahead++;
                    }
                }
            }
            return NONE;
        }

        int roundsRingingAt(int hour) {
            int ringing = 0;
            for (int p = LEAST_BELL; p <= MOST_BELL; p++) {
                if (fits(p, hour % p)) {
                    ringing++;
                }
            }
            return ringing;
        }
    }

    /** All but the pad, as it was when it was kept. */
    private static final class Image {
        final World world = new World();
        final Sights sights = new Sights();
        boolean isKept = false;
    }
}
