/** Counts answers that are not as due, and feeds texts. */
final class Check {
    private static int asked = 0;
    private static int wrong = 0;

    private Check() {
    }

    static void due(String call, long got, long want) {
        asked++;
        if (got != want) {
            wrong++;
            System.out.println(call + " answered " + got + ", due is " + want);
        }
    }

    static void due(String call, boolean got, boolean want) {
        due(call, got ? 1 : 0, want ? 1 : 0);
    }

    static void end() {
        System.out.println(asked + " answers, " + wrong + " not as due");
        if (wrong != 0 || asked == 0) {
            System.exit(1);
        }
    }

    /** Feeds the text, four signs a number; answers what the last call answered. */
    static int feed(SleepMoves x, String text) {
        int answer = x.feed(0, 0, 0, 0, 0);
        for (int i = 0; i < text.length(); i += 20) {
            answer = x.feed(packed(text, i), packed(text, i + 4), packed(text, i + 8), packed(text, i + 12),
                packed(text, i + 16));
        }
        return answer;
    }

    private static int packed(String text, int from) {
        int number = 0;
        for (int i = from; i < from + 4; i++) {
            number = number << 8 | (i < text.length() ? text.charAt(i) : 0);
        }
        return number;
    }

    /** A new object with this STREET. */
    static SleepMoves street(String text) {
        SleepMoves x = new SleepMoves();
        feed(x, text);
        if (x.text(0) < 1) {
            due("text(0) of " + text, -1, 1);
        }
        return x;
    }

    /** Gives a SLEEPER a new RULE with this text. */
    static void rule(SleepMoves x, int sleeper, String text) {
        feed(x, text);
        int rule = x.text(1);
        due("rule of " + text, rule >= 0 && x.rule(sleeper, rule), true);
    }
}
