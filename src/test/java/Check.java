/** Counts and prints the answers that are not as due. */
final class Check {
    private int asked = 0;
    private int wrong = 0;

    void due(String call, long got, long want) {
        asked++;
        if (got != want) {
            wrong++;
            System.out.println(call + " answered " + got + ", due is " + want);
        }
    }

    void holds(String what, boolean so) {
        asked++;
        if (!so) {
            wrong++;
            System.out.println("not so: " + what);
        }
    }

    void finish() {
        System.out.println(asked + " answers, " + wrong + " of them not as due");
        if (wrong != 0) {
            System.exit(1);
        }
    }

    /** Says a text on a wiped pad. */
    static void write(OxenKneel x, String text) {
        x.wipe();
        for (char sign : text.toCharArray()) {
            x.say(sign);
        }
    }
}
