import java.util.NoSuchElementException;

/** Counts answers that are not as due, and feeds texts. */
final class Check {
    /** What sleeper answers here where the document wants its exception. */
    static final int GONE = -99;

    private static int asked = 0;
    private static int wrong = 0;

    private Check() {
    }

    static void due(String call, long got, long want) {
        asked++;
        if (got != want) {
            wrong++;
            System.out.println(call + " answered " + got + ", due is " + want);
        }
    }

    static void due(String call, boolean got, boolean want) {
        due(call, got ? 1 : 0, want ? 1 : 0);
    }

    static void end() {
        System.out.println(asked + " answers, " + wrong + " not as due");
        if (wrong != 0 || asked == 0) {
            System.exit(1);
        }
    }

    /** Feeds the text, four signs a number; answers what the last call answered. */
    static int feed(SleepMoves x, String text) {
        int answer = x.feed(0, 0, 0, 0, 0);
        for (int i = 0; i < text.length(); i += 20) {
            answer = x.feed(packed(text, i), packed(text, i + 4), packed(text, i + 8), packed(text, i + 12),
                packed(text, i + 16));
        }
        return answer;
    }

    private static int packed(String text, int from) {
        int number = 0;
        for (int i = from; i < from + 4; i++) {
            number = number << 8 | (i < text.length() ? text.charAt(i) : 0);
        }
        return number;
    }

    /** A new object with this STREET. */
    static SleepMoves street(String text) {
        SleepMoves x = new SleepMoves();
        feed(x, text);
        if (x.text(0) < 1) {
            due("text(0) of " + text, -1, 1);
        }
        return x;
    }

    /** Gives a SLEEPER a new RULE with this text. */
    static void rule(SleepMoves x, int sleeper, String text) {
        feed(x, text);
        int rule = x.text(1);
        due("rule of " + text, rule >= 0 && x.rule(sleeper, rule), true);
    }

    /** STREET with a RULE for SLEEPER 0. */
    static SleepMoves ruled(String street, String rule) {
        SleepMoves x = street(street);
        rule(x, 0, rule);
        return x;
    }

    /** What sleeper answers, or GONE. */
    static int sleeper(SleepMoves x, int sleeper, int what) {
        try {
            return x.sleeper(sleeper, what);
        } catch (NoSuchElementException e) {
            due("the exception is just the one that the document names", e.getClass() == NoSuchElementException.class, true);
            return GONE;
        }
    }

    static String times(int n, String text) {
        return text.repeat(n);
    }

    /** Where all THINGS lie, as one number. */
    static int placesOf(SleepMoves x) {
        int places = 0;
        for (int thing = 0; thing < x.count(2); thing++) {
            places = 8 * places + x.thing(thing, 0);
        }
        return places;
    }

    /** Twenty NIGHTS from a seed, each a bit: whether it was in fever. */
    static int walkFrom(long seed) {
        SleepMoves x = street("h2;wk3;o");
        x.risk(50);
        x.seed(seed);
        return walkThere(x);
    }

    /** The next twenty NIGHTS of a STREET with one feverish SLEEPER and one THING, each a bit. */
    static int walkThere(SleepMoves x) {
        int fevers = 0;
        for (int i = 0; i < 20; i++) {
            x.put(0, 0);
            x.nights(1);
            fevers = 2 * fevers + 1 - x.thing(0, 0);
        }
        return fevers;
    }

    /** Whether the draws now stand where that seed begins. */
    static boolean sameDraws(SleepMoves x, long draws) {
        feed(x, "h2;wk3;o");
        x.text(0);
        return walkThere(x) == walkFrom(draws);
    }
}
