/** Promise by promise, each argument: the least and the most that is taken, what lies one beside them and far off. */
public final class PromiseBoundTests {
    private static final int HIDDEN = -1000000;
    private static final String LEAST_STREET = "h2;w;o";
    private static final String MOST_STREET = "h8;w;wa1;wa2;wa3;wa7k3;o;o;o;o;o;o;o;oa7;m";

    private interface Ask {
        long of(int value);
    }

    private PromiseBoundTests() {
    }

    public static void main(String[] args) {
        tape();
        texts();
        sleepersThingsHouses();
        byHand();
        nightsAndUndo();
        untilTheLastNight();
        whereToEmpty();
        metAndRound();
        seenAndFits();
        testOddsStayHoming();
        quietToAstray();
        imageBackCount();
        Check.end();
    }

    private static void due(String call, long got, long want) {
        Check.due(call, got, want);
    }

    private static void due(String call, boolean got, boolean want) {
        Check.due(call, got, want);
    }

    /** All from least to most are taken, all others refused; what is taken never answers as what is refused. */
    private static void range(String call, int least, int most, long refusal, Ask ask) {
        for (int value = least; value <= most; value++) {
            due(call + " takes " + value, ask.of(value) != refusal, true);
        }
        int[] beside = {least - 1, most + 1, least - 2, most + 2, Integer.MIN_VALUE, Integer.MAX_VALUE, most + 256, least - 256,
            most + 65536, least - 65536};
        for (int value : beside) {
            due(call + " refuses " + value, ask.of(value), refusal);
        }
    }

    private static long bit(boolean is) {
        return is ? 1 : 0;
    }

    // ---- Promises 2 to 5

    /** "feed: Twenty bytes more ... NONE: more than 160." "end: ... its first n bytes alone. False: n." */
    private static void tape() {
        for (int more = 0; more <= 20; more++) {
            SleepMoves x = filled(160 - more);
            due("feed to 160 by " + more, feedOnes(x, more), 160);
            if (more > 0) {
                SleepMoves y = filled(161 - more);
                due("feed to 161 by " + more, feedOnes(y, more), -1);
                due("nothing came", y.count(4), 161 - more);
            }
        }
        SleepMoves x = new SleepMoves();
        due("zeros are left out", x.feed(0x01000200, 0x00030004, 0, 0x80000000, 0x000000FF), 6);
        due("zeros at the end of a full tape", filled(160).feed(0, 0, 0, 0, 0), 160);
        for (int length = 0; length <= 160; length += 20) {
            for (int n = 0; n <= length; n += 20) {
                SleepMoves y = filled(length);
                due("end(" + n + ") of " + length, y.end(n), true);
                due("bytes then", y.count(4), n);
            }
            SleepMoves y = filled(length);
            for (int n : new int[] {-1, length + 1, 161, Integer.MIN_VALUE, Integer.MAX_VALUE}) {
                due("end(" + n + ") of " + length, y.end(n), false);
                due("bytes stay", y.count(4), length);
            }
        }
        feedOrder();
    }

    /** A tape with so many bytes of 1. */
    private static SleepMoves filled(int bytes) {
        SleepMoves x = new SleepMoves();
        for (int left = bytes; left > 0; left -= 20) {
            feedOnes(x, Math.min(20, left));
        }
        due("filled", x.count(4), bytes);
        return x;
    }

    private static int feedOnes(SleepMoves x, int bytes) {
        int[] numbers = new int[5];
        for (int i = 0; i < bytes; i++) {
            numbers[i / 4] |= 1 << (24 - i % 4 * 8);
        }
        return x.feed(numbers[0], numbers[1], numbers[2], numbers[3], numbers[4]);
    }

    /** "of each number the highest first": each of the twenty bytes comes to its own place. */
    private static void feedOrder() {
        String text = "h8;wa7s7k4e1;o;o;o;o";
        for (int i = 0; i < 20; i++) {
            char[] signs = text.toCharArray();
            signs[i] = 'x';
            SleepMoves x = new SleepMoves();
            Check.feed(x, new String(signs));
            due("byte " + i + " is the fault", x.fault(0), i);
            char[] gap = text.toCharArray();
            gap[i] = 0;
            SleepMoves y = new SleepMoves();
            due("byte " + i + " is left out", Check.feed(y, new String(gap)), 19);
        }
        SleepMoves x = new SleepMoves();
        due("a tape fed byte by byte", x.feed(0, 0, 0, 0, 'h'), 1);
        x.feed('2', 0, 0, 0, 0);
        x.feed(0, ';' << 24, 0, 0, 0);
        x.feed(0, 0, 'w' << 16, 0, 0);
        due("and so on", x.feed(0, 0, 0, ';' << 8, 'o'), 6);
        due("is a street", x.text(0), 1);
    }

    /** "fault: ... NONE: none. -2: no such sort." "text: ... NONE: a FAULT, no such sort, there are five." */
    private static void texts() {
        SleepMoves x = new SleepMoves();
        range("fault", 0, 1, -2, x::fault);
        due("an empty tape as a street", x.fault(0), 0);
        due("an empty tape as a rule", x.fault(1), 0);
        due("text(0) of an empty tape", x.text(0), -1);
        due("text(1) of an empty tape", x.text(1), -1);
        for (String text : new String[] {LEAST_STREET, "y:n"}) {
            for (int sort : new int[] {-1, 2, 3, Integer.MIN_VALUE, Integer.MAX_VALUE}) {
                SleepMoves y = new SleepMoves();
                Check.feed(y, text);
                due("text(" + sort + ") of " + text, y.text(sort), -1);
                due("its tape stays", y.count(4), text.length());
                due("no street", y.count(0), 0);
                due("no rule", y.count(3), 0);
            }
        }
        SleepMoves y = Check.street(LEAST_STREET);
        due("one sleeper", y.count(1), 1);
        Check.feed(y, MOST_STREET);
        due("five sleepers", y.text(0), 5);
        due("the tape is empty then", y.count(4), 0);
        Check.feed(y, "y:1");
        due("as a street", y.text(0), -1);
        due("the street stays", y.count(1), 5);
        due("as a rule", y.text(1), 0);
        due("the tape is empty then", y.count(4), 0);
        Check.feed(y, LEAST_STREET);
        due("a street as a rule", y.text(1), -1);
        due("one rule", y.count(3), 1);
        textOfAnother();
    }

    /** "NIGHT 0; RULES of SLEEPERS, LOCKS, SEEN, IMAGE of another one are gone; RULES, RISK, draws stay" */
    private static void textOfAnother() {
        SleepMoves x = Check.street("h8;wa7k3s3;wa6;oa7;oa5;m");
        Check.rule(x, 0, "y:3");
        Check.rule(x, 1, "y:4");
        x.risk(40);
        x.seed(11);
        x.nights(5);
        x.lock(0, true);
        x.lock(7, true);
        x.see(1, 3, 5, false);
        x.image();
        Check.feed(x, "h8;wa7k3s3;wa6;oa7;oa5;m");
        due("the same street told anew", x.text(0), 2);
        int[] counts = {8, 2, 2, 2, 0, 0, 7, 0, 0, 0};
        for (int what = 0; what < 10; what++) {
            due("count(" + what + ")", x.count(what), counts[what]);
        }
        due("its rules are gone", Check.sleeper(x, 0, 4), -1);
        due("the other's, too", Check.sleeper(x, 1, 4), -1);
        due("house 0 is not locked", x.house(0, 1), 0);
        due("house 7 is not locked", x.house(7, 1), 0);
        due("thing 0 lies as told", x.thing(0, 0), 7);
        due("thing 1 lies as told", x.thing(1, 0), 5);
        due("all steps fit", x.fits(1), 255);
        due("no image", x.back(), -1);
        due("no night", x.undo(), -1);
        due("by its step again", x.where(0, 1), 2);
        due("the risk stays", x.odds(0, 1, 7), 400000000);
        due("the rules stay", x.rule(0, 1), true);
        due("the second of them", x.where(0, 1), 3);
        nothingOfTheOther();
    }

    /** A STREET with less of all: nothing of the one ahead is left in what is asked. */
    private static void nothingOfTheOther() {
        SleepMoves x = Check.street("h8;wk3;wk3;wk3;wk3;wk3;o;o;oa7;oa7;oa7;oa7;oa7;oa7;mp2g9");
        for (int i = 0; i < 20; i++) {
            x.see(7, 1, 0, true);
        }
        Check.feed(x, "h4;wk3;o");
        due("a street with less", x.text(0), 1);
        due("no other feverish one is left", x.odds(0, 8, 1), 1000000000);
        due("see", x.see(0, 1, 2, true), 1);
        due("that one alone was seen", x.fits(0), 4);
        due("no thing is left elsewhere", x.homing(1, 0), -1);
        due("no moon is left", x.moon(9), 0);
        due("round", x.round(0), 1);
        due("nothing else is astray", x.astray(1), 1);
        due("no thing is left in house 3", x.house(3, 0), 0);
    }

    // ---- Promises 6 to 9

    private static void sleepersThingsHouses() {
        SleepMoves least = Check.street(LEAST_STREET);
        SleepMoves most = Check.street(MOST_STREET);
        SleepMoves none = new SleepMoves();
        for (int what = 0; what <= 3; what++) {
            int which = what;
            range("sleeper of one, what " + what, 0, 0, Check.GONE, v -> Check.sleeper(least, v, which));
            range("sleeper of five, what " + what, 0, 4, Check.GONE, v -> Check.sleeper(most, v, which));
            due("sleeper of no street", Check.sleeper(none, 0, what), Check.GONE);
        }
        range("what of a sleeper", 0, 4, Check.GONE, v -> Check.sleeper(most, 4, v));
        range("what of the first sleeper", 0, 4, Check.GONE, v -> Check.sleeper(most, 0, v));
        for (int what = 0; what <= 1; what++) {
            int which = what;
            range("thing of one, what " + what, 0, 0, -1, v -> least.thing(v, which));
            range("thing of eight, what " + what, 0, 7, -1, v -> most.thing(v, which));
            range("house of two, what " + what, 0, 1, -1, v -> least.house(v, which));
            range("house of eight, what " + what, 0, 7, -1, v -> most.house(v, which));
            due("thing of no street", none.thing(0, what), -1);
            due("house of no street", none.house(0, what), -1);
        }
        range("what of a thing", 0, 1, -1, v -> most.thing(7, v));
        range("what of a house", 0, 1, -1, v -> most.house(7, v));
        due("seven things as bits", most.house(0, 0), 127);
        due("the last thing as a bit", most.house(7, 0), 128);
        due("no thing", most.house(1, 0), 0);
        rules(most, least);
    }

    /** "rule: A RULE of a SLEEPER (NONE: none). False: no such ones." */
    private static void rules(SleepMoves most, SleepMoves least) {
        range("rule of one without rules", 0, 0, 0, v -> bit(least.rule(v, -1)));
        range("rule of five without rules", 0, 4, 0, v -> bit(most.rule(v, -1)));
        range("rule where there are none", -1, -1, 0, v -> bit(most.rule(0, v)));
        for (int rules = 1; rules <= 5; rules++) {
            Check.feed(most, "y:" + rules);
            most.text(1);
            range("rule where there are " + rules, -1, rules - 1, 0, v -> bit(most.rule(4, v)));
            due("the last that was taken", Check.sleeper(most, 4, 4), rules - 1);
        }
        range("sleeper of a rule", 0, 4, 0, v -> bit(most.rule(v, 4)));
        due("a wrong sleeper and a rule", most.rule(5, 0), false);
        due("none again", most.rule(4, -1), true);
        due("it has none", Check.sleeper(most, 4, 4), -1);
        due("a rule without a street", ruleAlone(), false);
    }

    private static boolean ruleAlone() {
        SleepMoves x = new SleepMoves();
        Check.feed(x, "y:1");
        due("text(1) without a street", x.text(1), 0);
        return x.rule(0, 0);
    }

    // ---- Promises 10 to 13

    private static void byHand() {
        SleepMoves none = new SleepMoves();
        SleepMoves least = Check.street(LEAST_STREET);
        SleepMoves most = Check.street(MOST_STREET);
        range("risk without a street", 0, 100, 0, v -> bit(none.risk(v)));
        SleepMoves feverish = Check.street("h2;wk3;o");
        range("risk", 0, 100, 0, v -> bit(feverish.risk(v)));
        due("the last risk that was taken", feverish.odds(0, 1, 0), 1000000000);
        for (int risk = 0; risk <= 100; risk++) {
            feverish.risk(risk);
            due("odds by risk " + risk, feverish.odds(0, 1, 0), 10000000 * risk);
        }
        for (long seed : new long[] {0, -1, Long.MIN_VALUE, Long.MAX_VALUE}) {
            due("seed " + seed, most.seed(seed), true);
            due("seed without a street", none.seed(seed), true);
        }
        range("thing put of one", 0, 0, 0, v -> bit(least.put(v, 1 - Math.max(0, least.thing(v, 0)))));
        range("thing put of eight", 0, 7, 0, v -> bit(most.put(v, 4)));
        range("house put into of eight", 0, 7, 0, v -> bit(most.put(0, v)));
        due("it lies in the last that was taken", most.thing(0, 0), 7);
        range("house put into of two", 0, 1, 0, v -> bit(least.put(0, v == least.thing(0, 0) ? 1 - v : v)));
        for (int house = 0; house < 8; house++) {
            due("put elsewhere", most.put(3, house), true);
            due("it lies there", most.put(3, house), false);
            due("so it is", most.thing(3, 0), house);
        }
        due("put of no street", none.put(0, 0), false);
        locks(most, least, none);
    }

    /** "lock: A HOUSE is LOCKED, or not. False: no such one, it is so." */
    private static void locks(SleepMoves most, SleepMoves least, SleepMoves none) {
        for (int house = 0; house < 8; house++) {
            due("it is open", most.lock(house, false), false);
        }
        range("locked of eight", 0, 7, 0, v -> bit(most.lock(v, true)));
        due("all eight as bits", most.count(9), 255);
        for (int house = 0; house < 8; house++) {
            due("it is locked", most.lock(house, true), false);
        }
        due("all eight still", most.count(9), 255);
        range("opened of eight", 0, 7, 0, v -> bit(most.lock(v, false)));
        due("none", most.count(9), 0);
        range("locked of two", 0, 1, 0, v -> bit(least.lock(v, true)));
        due("both as bits", least.count(9), 3);
        due("house 1 is locked", least.house(1, 1), 1);
        due("a locked house is put into, too", least.put(0, 1 - least.thing(0, 0)), true);
        due("lock of no street", none.lock(0, true), false);
        due("open of no street", none.lock(0, false), false);
    }

    // ---- Promises 14 to 16

    private static void nightsAndUndo() {
        SleepMoves x = Check.street(LEAST_STREET);
        range("nights", 1, 60, -1, x::nights);
        due("all of them went by", x.count(5), 60 * 61 / 2);
        due("nights of no street", new SleepMoves().nights(1), -1);
        SleepMoves y = Check.street(LEAST_STREET);
        due("sixty nights", y.nights(60), 60);
        due("one night", y.nights(1), 61);
        due("undo of no street", new SleepMoves().undo(), -1);
        due("undo of no night", Check.street(LEAST_STREET).undo(), -1);
        SleepMoves one = Check.street(LEAST_STREET);
        one.nights(1);
        due("undo of one night", one.undo(), 0);
        due("undo of no more", one.undo(), -1);
        due("the night is 0", one.count(5), 0);
        SleepMoves moon = Check.street("h2;w;o;mp9g9");
        for (int night : new int[] {-1, -2, -9, Integer.MIN_VALUE}) {
            due("moon(" + night + ")", moon.moon(night), -1);
        }
        due("moon(0)", moon.moon(0), 0);
        due("moon(8)", moon.moon(8), 0);
        due("moon(9)", moon.moon(9), 1);
        due("moon(10)", moon.moon(10), 0);
        due("moon(18)", moon.moon(18), 1);
        due("moon of the highest night", moon.moon(Integer.MAX_VALUE), Integer.MAX_VALUE % 9 == 0 ? 1 : 0);
        due("moon of the highest full night", moon.moon(Integer.MAX_VALUE / 9 * 9), 1);
        due("moon of no street", new SleepMoves().moon(0), -1);
        due("moon of no street below 0", new SleepMoves().moon(-1), -1);
        due("no moon, below 0", Check.street(LEAST_STREET).moon(-1), -1);
    }

    /** THING 0 goes from HOUSE 0 to 1 in the sixtieth NIGHT alone, THING 1 lies in 1: so 59 and 60 NIGHTS answer otherwise. */
    private static void untilTheLastNight() {
        SleepMoves x = Check.street("h4;w;o;oa1");
        Check.rule(x, 0, "y:n=59?1;y:0");
        pair("where", x.where(0, 59), 0, x.where(0, 60), 1);
        pair("carries", x.carries(0, 59), 0, x.carries(0, 60), 1);
        pair("touched", x.touched(0, 59), 0, x.touched(0, 60), 1);
        pair("empty", x.empty(0, 59), 0, x.empty(0, 60), 1);
        pair("met", x.met(0, 1, 59, 0), 0, x.met(0, 1, 60, 0), 1);
        pair("test", x.test(0, 59, 1), 4, x.test(0, 60, 1), 4);
        pair("stay", x.stay(0, 59), 0, x.stay(0, 60), 1);
        pair("homing", x.homing(59, 0), 0, x.homing(60, 0), -1);
        pair("quiet", x.quiet(0, 59), 0, x.quiet(0, 60), 1);
        pair("guest", x.guest(0, 1, 59, 0), 1, x.guest(0, 1, 60, 0), 0);
        pair("path", x.path(0, 59, -1), 0, x.path(0, 60, -1), 1);
        pair("span", x.span(0, 59), 59, x.span(0, 60), 59);
        pair("fullest", x.fullest(59, 0), 1, x.fullest(60, 0), 2);
        pair("astray", x.astray(59), 0, x.astray(60), 1);
        SleepMoves y = Check.street("h4;wa3;w;o");
        Check.rule(y, 1, "y:n=59?1;y:0");
        pair("culprit", y.culprit(59), 0, y.culprit(60), 1);
        SleepMoves first = Check.street("h4;w;o;oa1");
        due("where behind one", first.where(0, 1), 1);
        due("carries behind one", first.carries(0, 1), 1);
        due("touched behind one", first.touched(0, 1), 1);
        due("empty behind one", first.empty(0, 1), 1);
        due("met behind one", first.met(0, 1, 1, 0), 1);
        due("test behind one", first.test(0, 1, 1), 4);
        due("stay behind one", first.stay(0, 1), 1);
        due("homing behind one", first.homing(1, 0), -1);
        due("quiet behind one", first.quiet(0, 1), 1);
        due("culprit behind one", first.culprit(1), 0);
        due("guest behind one", first.guest(1, 1, 1, 0), 1);
        due("path behind one", first.path(0, 1, -1), 1);
        due("span behind one", first.span(1, 1), 1);
        due("fullest behind one", first.fullest(1, 0), 2);
        due("astray behind one", first.astray(1), 1);
        due("astray behind none", first.astray(0), 0);
    }

    private static void pair(String call, long got59, long want59, long got60, long want60) {
        due(call + " behind 59", got59, want59);
        due(call + " behind 60", got60, want60);
    }

    // ---- Promises 17 to 20

    private static void whereToEmpty() {
        SleepMoves least = Check.street(LEAST_STREET);
        SleepMoves most = Check.street(MOST_STREET);
        SleepMoves none = new SleepMoves();
        range("where, n", 1, 60, -1, v -> most.where(0, v));
        range("where, thing of eight", 0, 7, -1, v -> most.where(v, 1));
        range("where, thing of one", 0, 0, -1, v -> least.where(v, 60));
        due("where of no street", none.where(0, 1), -1);
        range("carries, n", 1, 60, -1, v -> most.carries(0, v));
        range("carries, sleeper of five", 0, 4, -1, v -> most.carries(v, 1));
        range("carries, sleeper of one", 0, 0, -1, v -> least.carries(v, 60));
        due("carries of no street", none.carries(0, 1), -1);
        range("touched, n", 1, 60, -1, v -> most.touched(0, v));
        range("touched, thing of eight", 0, 7, -1, v -> most.touched(v, 1));
        range("touched, thing of one", 0, 0, -1, v -> least.touched(v, 60));
        due("touched of no street", none.touched(0, 1), -1);
        range("empty, n", 1, 60, -1, v -> most.empty(0, v));
        range("empty, house of eight", 0, 7, -1, v -> most.empty(v, 1));
        range("empty, house of two", 0, 1, -1, v -> least.empty(v, 60));
        due("empty of no street", none.empty(0, 1), -1);
        due("thing 7 is taken, too", most.where(7, 1), 0);
        due("by the last sleeper", most.touched(7, 1), 16);
        due("which carried one", most.carries(4, 1), 1);
        due("where it is empty then", most.empty(7, 1), 1);
        SleepMoves all = Check.street("h8;w;wa1;wa2;wa3;wa4;o");
        due("touched by all five", all.touched(0, 1), 31);
        SleepMoves round = Check.street("h2;w;wa1;o;o;o;o;o;o;o;oa1");
        due("a carry each night", round.carries(0, 60), 60);
        due("by both", round.carries(1, 60), 60);
        due("never empty", round.empty(0, 60), 0);
        due("sixty times empty", Check.street("h2;ws0;o").empty(1, 60), 60);
    }

    // ---- Promises 21, 22

    /** "met: behind how many (0), the first (1; NONE: none). HIDDEN: no such ones, alike, out of bounds." */
    private static void metAndRound() {
        SleepMoves most = Check.street(MOST_STREET);
        range("met, n", 1, 60, HIDDEN, v -> most.met(0, 1, v, 0));
        range("met, what", 0, 1, HIDDEN, v -> most.met(6, 7, 1, v));
        range("met, one", 0, 6, HIDDEN, v -> most.met(v, 7, 1, 0));
        range("met, other", 0, 6, HIDDEN, v -> most.met(7, v, 1, 0));
        range("met, one from behind", 1, 7, HIDDEN, v -> most.met(v, 0, 1, 0));
        for (int thing = 0; thing < 8; thing++) {
            due("alike", most.met(thing, thing, 1, 0), HIDDEN);
            due("alike, what 1", most.met(thing, thing, 1, 1), HIDDEN);
        }
        due("of one thing", Check.street(LEAST_STREET).met(0, 1, 1, 0), HIDDEN);
        due("of no street", new SleepMoves().met(0, 1, 1, 0), HIDDEN);
        SleepMoves apart = Check.street("h2;ws0;o;oa1");
        due("never met", apart.met(0, 1, 60, 0), 0);
        due("never met: none is the first", apart.met(0, 1, 60, 1), -1);
        SleepMoves still = Check.street("h2;ws0;o;o");
        due("always met", still.met(0, 1, 60, 0), 60);
        due("the first of always", still.met(0, 1, 60, 1), 1);
        range("round, what", 0, 1, -1, most::round);
        due("round of no street", new SleepMoves().round(0), -1);
        due("round of no street, what 1", new SleepMoves().round(1), -1);
        SleepMoves least = Check.street(LEAST_STREET);
        due("round of the least street, from", least.round(0), 1);
        due("round of the least street, on", least.round(1), 1);
    }

    // ---- Promises 23 to 26

    private static void seenAndFits() {
        range("see, n", 1, 30, -1, v -> Check.street(MOST_STREET).see(0, v, 0, true));
        range("see, n, not", 1, 30, -1, v -> Check.street(MOST_STREET).see(0, v, 0, false));
        range("see, thing of eight", 0, 7, -1, v -> Check.street(MOST_STREET).see(v, 30, 7, true));
        range("see, thing of one", 0, 0, -1, v -> Check.street(LEAST_STREET).see(v, 1, 1, true));
        range("see, house of eight", 0, 7, -1, v -> Check.street(MOST_STREET).see(7, 30, v, true));
        range("see, house of two", 0, 1, -1, v -> Check.street(LEAST_STREET).see(0, 1, v, true));
        due("see of no street", new SleepMoves().see(0, 1, 0, true), -1);
        SleepMoves x = Check.street(MOST_STREET);
        for (int i = 1; i <= 20; i++) {
            due("see " + i, x.see(i % 8, 1 + i, i % 8, i % 2 == 0), i);
        }
        due("see 21", x.see(0, 1, 0, true), -1);
        due("see 21, not", x.see(0, 1, 0, false), -1);
        due("twenty", x.count(7), 20);
        SleepMoves least = Check.street(LEAST_STREET);
        SleepMoves most = Check.street(MOST_STREET);
        range("fits of one", 0, 0, -1, least::fits);
        range("fits of five", 0, 4, -1, most::fits);
        due("fits of no street", new SleepMoves().fits(0), -1);
        range("pairs, one", 0, 3, -1, v -> most.pairs(v, 4));
        range("pairs, other", 1, 4, -1, v -> most.pairs(0, v));
        for (int sleeper = 0; sleeper < 5; sleeper++) {
            due("alike", most.pairs(sleeper, sleeper), -1);
        }
        due("pairs of one", least.pairs(0, 1), -1);
        due("pairs of one, from behind", least.pairs(1, 0), -1);
        due("pairs of no street", new SleepMoves().pairs(0, 1), -1);
        due("awake of no street", new SleepMoves().awake(), -1);
        due("awake: none", most.awake(), 0);
        most.see(0, 1, 0, true);
        most.see(0, 1, 0, false);
        due("awake: all five", most.awake(), 31);
        due("no pair", most.pairs(0, 4), 0);
        due("no step", most.fits(4), 0);
    }

    // ---- Promises 27 to 30

    private static void testOddsStayHoming() {
        SleepMoves least = Check.street(LEAST_STREET);
        SleepMoves most = Check.street(MOST_STREET);
        SleepMoves none = new SleepMoves();
        range("test, sleeper of five", 0, 4, -1, v -> most.test(v, 1, 1));
        range("test, sleeper of one", 0, 0, -1, v -> least.test(v, 1, 0));
        range("test, n", 1, 60, -1, v -> least.test(0, v, 0));
        range("test, what", 0, 1, -1, v -> most.test(0, 1, v));
        due("test of no street", none.test(0, 1, 0), -1);
        range("odds, thing of eight", 0, 7, -1, v -> most.odds(v, 1, 0));
        range("odds, thing of one", 0, 0, -1, v -> least.odds(v, 1, 0));
        range("odds, n", 1, 8, -1, v -> most.odds(0, v, 0));
        range("odds, house of eight", 0, 7, -1, v -> most.odds(0, 1, v));
        range("odds, house of two", 0, 1, -1, v -> least.odds(0, 1, v));
        due("odds of no street", none.odds(0, 1, 0), -1);
        range("stay, thing of eight", 0, 7, -1, v -> most.stay(v, 1));
        range("stay, thing of one", 0, 0, -1, v -> least.stay(v, 1));
        range("stay, n", 1, 60, -1, v -> most.stay(0, v));
        due("stay of no street", none.stay(0, 1), -1);
        SleepMoves home = Check.street("h6;w;oa5;oa5;oa5;oa5");
        range("homing, n", 1, 60, -1, v -> home.homing(v, 0));
        range("homing, what", 0, 1, HIDDEN, v -> home.homing(1, v));
        due("four things, six houses", home.homing(1, 1), 5555);
        due("five things", Check.street("h6;w;oa5;oa5;oa5;oa5;oa5").homing(1, 1), HIDDEN);
        due("seven houses", Check.street("h7;w;oa5;oa5;oa5;oa5").homing(1, 1), HIDDEN);
        due("both too many", most.homing(1, 0), HIDDEN);
        due("no street", none.homing(1, 1), HIDDEN);
        due("it can't be", least.homing(1, 0), -1);
        due("it can't be, places", least.homing(1, 1), -1);
        due("out of bounds, places", least.homing(0, 1), -1);
        due("out of bounds, places", least.homing(61, 1), -1);
    }

    // ---- Promises 31 to 37

    private static void quietToAstray() {
        SleepMoves least = Check.street(LEAST_STREET);
        SleepMoves most = Check.street(MOST_STREET);
        SleepMoves none = new SleepMoves();
        range("quiet, sleeper of five", 0, 4, -1, v -> most.quiet(v, 1));
        range("quiet, sleeper of one", 0, 0, -1, v -> least.quiet(v, 1));
        range("quiet, n", 1, 60, -1, v -> most.quiet(4, v));
        due("quiet of no street", none.quiet(0, 1), -1);
        range("culprit, n", 1, 60, -1, most::culprit);
        due("culprit of no street", none.culprit(1), -1);
        range("guest, home of eight", 0, 7, -1, v -> most.guest(v, 1, 1, 0));
        range("guest, home of two", 0, 1, -1, v -> least.guest(v, 1, 1, 0));
        range("guest, step", 0, 7, -1, v -> most.guest(0, v, 1, 1));
        range("guest, step of two houses", 0, 7, -1, v -> least.guest(1, v, 60, 1));
        range("guest, n", 1, 60, -1, v -> most.guest(7, 7, v, 1));
        range("guest, what", 0, 1, -1, v -> most.guest(7, 7, 60, v));
        due("guest of no street", none.guest(0, 0, 1, 0), -1);
        range("path, thing of eight", 0, 7, HIDDEN, v -> most.path(v, 1, -1));
        range("path, thing of one", 0, 0, HIDDEN, v -> least.path(v, 1, 0));
        range("path, n", 1, 60, HIDDEN, v -> most.path(0, v, -1));
        range("path, n with an i that is none", 1, 60, HIDDEN, v -> most.path(0, v, 60));
        due("path of no street", none.path(0, 1, 0), HIDDEN);
        range("path, i", -1, 0, -1, v -> least.path(0, 60, v));
        due("path: how many", least.path(0, 60, -1), 1);
        range("span, thing of eight", 0, 7, -1, v -> most.span(v, 1));
        range("span, thing of one", 0, 0, -1, v -> least.span(v, 1));
        range("span, n", 1, 60, -1, v -> most.span(0, v));
        due("span of no street", none.span(0, 1), -1);
        range("fullest, n", 1, 60, -1, v -> most.fullest(v, 0));
        range("fullest, what", 0, 2, -1, v -> most.fullest(60, v));
        due("fullest of no street", none.fullest(1, 0), -1);
        range("astray, n", 0, 60, -1, most::astray);
        due("astray of no street", none.astray(0), -1);
        due("astray of no street, n 1", none.astray(1), -1);
    }

    // ---- Promises 38 to 40

    private static void imageBackCount() {
        SleepMoves none = new SleepMoves();
        due("image of no street", none.image(), -1);
        due("back of no street", none.back(), -1);
        SleepMoves x = Check.street(LEAST_STREET);
        due("back without an image", x.back(), -1);
        due("image in night 0", x.image(), 0);
        due("back at once", x.back(), 0);
        x.nights(60);
        due("back to night 0", x.back(), 0);
        due("once more", x.back(), 0);
        x.nights(60);
        due("instead of the one ahead", x.image(), 60);
        x.nights(1);
        due("back to night 60", x.back(), 60);
        for (int what : new int[] {-1, 10, 11, Integer.MIN_VALUE, Integer.MAX_VALUE, 256}) {
            due("count(" + what + ")", x.count(what), HIDDEN);
            due("count(" + what + ") of no street", none.count(what), HIDDEN);
        }
        for (int what = 0; what <= 9; what++) {
            due("count(" + what + ") of no street", none.count(what), 0);
        }
        mostCounts();
        leastCounts();
    }

    private static void mostCounts() {
        SleepMoves x = Check.street("h8;w;w;w;w;w;o;o;o;o;o;o;o;o;mp9");
        for (int i = 0; i < 5; i++) {
            Check.feed(x, "y:1");
            x.text(1);
        }
        for (int i = 0; i < 8; i++) {
            feedOnes(x, 20);
            x.lock(i, true);
        }
        for (int i = 0; i < 20; i++) {
            x.see(0, 1, 0, true);
        }
        for (int i = 0; i < 5; i++) {
            x.nights(60);
        }
        int[] most = {8, 5, 8, 5, 160, 300, 9, 20, 60, 255};
        for (int what = 0; what <= 9; what++) {
            due("the most of count(" + what + ")", x.count(what), most[what]);
        }
    }

    private static void leastCounts() {
        SleepMoves x = Check.street("h2;w;o;mp2");
        int[] least = {2, 1, 1, 0, 0, 0, 2, 0, 0, 0};
        for (int what = 0; what <= 9; what++) {
            due("the least of count(" + what + ")", x.count(what), least[what]);
        }
    }
}
