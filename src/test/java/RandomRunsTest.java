import java.util.Random;

/** Every promise at once: runs of up to 512 calls by fixed seeds, each answer set against the model's. */
public final class RandomRunsTest {
    private static final int RUNS = 1500;
    /** Beside the 60 that tell all at the end, and the few by which the last step may go too far. */
    private static final int CALLS = 512 - 60 - 4;
    private static final String[] TEXTS = {"k", "k", "h1", "d1", "(", "(", "(", ")", ">", ">", "<", "$", "%", "d9"};

    private final Check check = new Check();
    private Random random;
    private OxenKneel x;
    private Model model;
    private String run;

    public static void main(String[] args) {
        RandomRunsTest test = new RandomRunsTest();
        for (int seed = 0; seed < RUNS; seed++) {
            test.oneRun(seed);
        }
        test.check.finish();
    }

    private void oneRun(int seed) {
        random = new Random(seed);
        x = new OxenKneel();
        model = new Model();
        run = "run " + seed;
        for (int left = CALLS; left > 0;) {
            left -= oneStep();
        }
        for (int what = 0; what < 60; what++) {
            due("told", x.told(what), model.told(what));
        }
    }

    private void due(String call, long got, long want) {
        check.due(run + ": " + call, got, want);
    }

    /** Mostly from 0 to most, at times just outside, seldom far outside. */
    private int some(int least, int most) {
        int dice = random.nextInt(40);
        if (dice == 0) return least - 1;
        if (dice == 1) return most + 1;
        if (dice == 2) return least;
        if (dice == 3) return most;
        if (dice == 4 && random.nextInt(5) == 0) return random.nextInt();
        return least + random.nextInt(most - least + 1);
    }

    private int oneStep() {
        int dice = random.nextInt(100);
        if (dice < 45) return act();
        if (dice < 75) return question();
        if (dice < 85) return setting();
        if (dice < 95) return bell();
        return reckoning();
    }

    /** Says an act, and drops it if it can not be, so that most runs get on. */
    private int act() {
        int calls = 0;
        String deed = TEXTS[random.nextInt(TEXTS.length)];
        String text = deed;
        if ("()<>$%".contains(deed)) {
            text = (char) ('A' + random.nextInt(random.nextInt(9) == 0 ? 7 : 3)) + deed;
        }
        if (deed.equals("$")) {
            text += random.nextInt(9) == 0 ? "9" : "1";
        }
        for (char sign : text.toCharArray()) {
            int said = random.nextInt(60) == 0 ? some(33, 126) : sign;
            due("say(" + said + ")", x.say(said), model.say(said));
            calls++;
        }
        int why = model.judge(1);
        if (why != Model.NONE && random.nextInt(8) != 0 || random.nextInt(12) == 0) {
            due("judge(1)", x.judge(1), why);
            due("wipe()", x.wipe(), model.wipe());
            calls += 2;
        }
        return calls;
    }

    private int question() {
        int what = some(0, 7);
        int person = some(0, 5);
        switch (random.nextInt(7)) {
            case 0: due("fault()", x.fault(), model.fault()); break;
            case 1:
                due("judge(" + what % 3 + ")", x.judge(what % 3), model.judge(what % 3));
                break;
            case 2: due("done()", x.done(), model.done()); break;
            case 3:
                int which = some(0, 1);
                due("behind(" + person + ", " + which + ")", x.behind(person, which), model.behind(person, which));
                break;
            case 4:
                int place = some(0, random.nextInt(3) == 0 ? 29 : 3);
                due("lies(" + place + ")", x.lies(place), model.lies(place));
                break;
            case 5: due("then(" + what + ")", x.then(what), model.then(what)); break;
            default:
                int any = some(0, 60);
                due("told(" + any + ")", x.told(any), model.told(any));
                break;
        }
        return 1;
    }

    private int setting() {
        int a = some(0, 5), b = some(0, 99), c = some(0, 364), n = some(0, 1);
        switch (random.nextInt(6)) {
            case 0:
                int days = some(0, 30);
                due("shift(" + days + ")", x.shift(days), model.shift(days));
                break;
            case 1: due("kneel(" + c + ")", x.kneel(c), model.kneel(c)); break;
            case 2:
                int hour = random.nextBoolean() ? 0 : some(0, 23);
                int date = random.nextBoolean() ? model.told(5) : c;
                due("clock(" + date + ", " + hour + ", " + b + ")", x.clock(date, hour, b),
                    model.clock(date, hour, b));
                break;
            case 3: due("person(" + a + ", " + b + ")", x.person(a, b), model.person(a, b)); break;
            case 4: due("image(" + n + ")", x.image(n), model.image(n)); break;
            default: due("restore(" + n + ")", x.restore(n), model.restore(n)); break;
        }
        return 1;
    }

    private int bell() {
        int n = some(0, 99);
        int what = some(0, 1);
        boolean rang = random.nextInt(4) == 0;
        switch (random.nextInt(8)) {
            case 0: due("forget()", x.forget(), model.forget()); break;
            case 1: due("rounds(-1)", x.rounds(-1), model.rounds(-1)); break;
            case 2: due("rounds(" + n + ")", x.rounds(n), model.rounds(n)); break;
            case 3: due("ask(" + what + ")", x.ask(what), model.ask(what)); break;
            default: due("seen(" + n + ", " + rang + ")", x.seen(n, rang), model.seen(n, rang)); break;
        }
        return 1;
    }

    private int reckoning() {
        int what = some(0, 1);
        switch (random.nextInt(6)) {
            case 0:
                int p = some(1, 99), q = some(1, 99), a = some(0, 40), b = some(0, 40);
                due("agree(" + p + ", " + a + ", " + q + ", " + b + ")", x.agree(p, a, q, b), Model.agree(p, a, q, b));
                break;
            case 1:
                int y = some(1000, 3000), m = some(1, 12), d = some(1, 31);
                due("style(" + y + ", " + m + ", " + d + ")", x.style(y, m, d, what), Model.style(y, m, d, what));
                break;
            case 2:
                int row = 1111 + 1000 * random.nextInt(9) + random.nextInt(9), worths = 1111 + random.nextInt(8888);
                int minutes = some(0, 30);
                due("pack(" + row + ", " + worths + ", 4, " + minutes + ")", x.pack(row, worths, 4, minutes, what),
                    Model.pack(row, worths, 4, minutes, what));
                break;
            case 3:
                int n = some(0, 9999);
                due("halves(" + n + ")", x.halves(n, what), Model.halves(n, what));
                break;
            case 4:
                int nights = some(0, 16), k = some(0, 8), t = some(0, 10);
                due("knelt(" + nights + ", " + k + ", " + t + ")", x.knelt(nights, k, t, what, 0),
                    Model.knelt(nights, k, t, what, 0));
                break;
            default:
                int seed = some(0, 9999), acts = some(1, 99), which = some(0, 2);
                due("year(" + seed + ", " + acts + ", " + which + ")", x.year(seed, acts, which),
                    model.year(seed, acts, which));
                break;
        }
        return 1;
    }
}
