import java.util.ArrayList;
import java.util.List;

/**
 * "What is refused answers as told and changes nothing.": each refused call, in several states, and behind it a long
 * run of other calls that must answer just as on an object without the refused one.
 */
public final class RefusalTests {
    private static final int NONE = -1;
    private static final int HIDDEN = -1000000;
    private static final int[] FAR = {Integer.MIN_VALUE, -256, -2, -1, 256, 65536, Integer.MAX_VALUE};

    private interface Call {
        long on(SleepMoves x);
    }

    private interface State {
        SleepMoves made();
    }

    private final String name;
    private final State state;
    private final List<Long> untouched;
    private final int houses;
    private final int sleepers;
    private final int things;
    private final boolean isTold;

    private RefusalTests(String name, State state) {
        this.name = name;
        this.state = state;
        SleepMoves x = state.made();
        houses = x.count(0);
        sleepers = x.count(1);
        things = x.count(2);
        isTold = houses > 0;
        untouched = trace(state.made());
    }

    public static void main(String[] args) {
        RefusalTests[] all = {new RefusalTests("new", SleepMoves::new), new RefusalTests("no street", RefusalTests::noStreet),
            new RefusalTests("least", RefusalTests::least), new RefusalTests("rich", RefusalTests::rich),
            new RefusalTests("full", RefusalTests::full), new RefusalTests("home", RefusalTests::home)};
        for (RefusalTests tests : all) {
            tests.all();
        }
        traceTells();
        Check.end();
    }

    // ---- states

    private static SleepMoves noStreet() {
        SleepMoves x = new SleepMoves();
        Check.feed(x, "y:n*3+1");
        x.text(1);
        Check.feed(x, "h3;wk3");
        x.risk(50);
        x.seed(21);
        return x;
    }

    private static SleepMoves least() {
        SleepMoves x = Check.street("h2;w;o");
        Check.feed(x, "y:");
        return x;
    }

    private static SleepMoves rich() {
        SleepMoves x = Check.street("h5;wk3;wa1k1s2;wa2k2e1;wa3k4s3;oa0;oa1;oa3;oa4;mp3g1");
        Check.rule(x, 1, "y:m=1?q+1;y:n/2+h");
        Check.rule(x, 3, "y:!(n>3&w=3)?s;y:[n-1]*2");
        x.risk(50);
        x.seed(9);
        x.nights(3);
        x.lock(4, true);
        x.put(0, 2);
        x.image();
        x.lock(1, true);
        x.nights(2);
        x.put(1, 3);
        x.lock(1, false);
        x.see(0, 2, 1, false);
        x.see(1, 1, 2, false);
        Check.feed(x, "h4;wa5");
        return x;
    }

    private static SleepMoves full() {
        SleepMoves x = Check.street("h8;w;wa1k3;wa2k3;wa3k1;wa7k2;o;o;oa1;oa1;oa2;oa3;oa7;oa7;mp9g9");
        for (int i = 0; i < 5; i++) {
            Check.rule(x, i, "y:n*" + i + "+1");
        }
        x.rule(2, -1);
        x.risk(30);
        x.nights(60);
        x.image();
        x.nights(60);
        x.nights(7);
        x.lock(5, true);
        for (int i = 0; i < 20; i++) {
            x.see(i % 8, 30 - i, i % 8, false);
        }
        for (int i = 0; i < 8; i++) {
            Check.feed(x, "y:n+1;y:n+2;y:n;y:m;");
        }
        return x;
    }

    private static SleepMoves home() {
        SleepMoves x = Check.street("h6;wa1k4;wa2k4s2;wk3;oa1;oa2;oa3;oa4");
        x.put(0, 2);
        x.risk(100);
        x.nights(1);
        x.image();
        Check.feed(x, "h6;wk3;oa5;m");
        return x;
    }

    // ---- what an object answers

    /** Asks all that can be asked, then goes on: nights, undo, back, texts; each state shows somewhere in it. */
    private static List<Long> trace(SleepMoves x) {
        List<Long> answers = new ArrayList<>();
        told(x, answers);
        asked(x, answers);
        wentOn(x, answers);
        return answers;
    }

    private static void told(SleepMoves x, List<Long> answers) {
        for (int what = 0; what <= 9; what++) {
            add(answers, x.count(what));
        }
        add(answers, x.fault(0), x.fault(1));
        for (int sleeper = 0; sleeper < x.count(1); sleeper++) {
            for (int what = 0; what <= 4; what++) {
                add(answers, Check.sleeper(x, sleeper, what));
            }
        }
        for (int thing = 0; thing < x.count(2); thing++) {
            add(answers, x.thing(thing, 0), x.thing(thing, 1));
        }
        for (int night = 0; night < 10; night++) {
            add(answers, x.moon(night));
        }
    }

    private static void asked(SleepMoves x, List<Long> answers) {
        for (int sleeper = 0; sleeper < x.count(1); sleeper++) {
            add(answers, x.fits(sleeper), x.carries(sleeper, 20), x.quiet(sleeper, 5));
        }
        for (int thing = 0; thing < x.count(2); thing++) {
            add(answers, x.where(thing, 3), x.touched(thing, 9), x.stay(thing, 2), x.path(thing, 9, 0));
        }
        for (int house = 0; house < x.count(0); house++) {
            add(answers, x.odds(0, 2, house));
        }
        add(answers, x.round(0), x.round(1), x.awake(), x.test(0, 2, 0), x.homing(2, 1), x.culprit(3), x.fullest(9, 2));
        add(answers, x.pairs(0, 1), x.met(0, 1, 20, 0), x.empty(0, 20), x.span(0, 20), x.guest(1, 1, 5, 0), x.astray(4));
    }

    private static void wentOn(SleepMoves x, List<Long> answers) {
        add(answers, x.nights(5));
        places(x, answers);
        for (int i = 0; i < 7; i++) {
            add(answers, x.undo());
            places(x, answers);
        }
        add(answers, x.nights(3), x.count(8));
        places(x, answers);
        add(answers, x.back(), x.count(9), x.count(8), x.undo());
        places(x, answers);
        add(answers, x.nights(4), x.see(0, 1, 0, true), x.image());
        places(x, answers);
        add(answers, x.feed(';', 0, 0, 0, 0), x.fault(0), x.fault(1), x.text(0), x.text(1), x.count(4));
        x.end(0);
        x.feed(0x68323B77, 0x6B333B6F, 0, 0, 0);
        add(answers, x.text(0), x.odds(0, 1, 0), x.nights(9), x.house(0, 0), x.nights(1), x.house(0, 0), x.count(3));
    }

    private static void places(SleepMoves x, List<Long> answers) {
        for (int house = 0; house < x.count(0); house++) {
            add(answers, x.house(house, 0));
        }
    }

    private static void add(List<Long> answers, long... more) {
        for (long answer : more) {
            answers.add(answer);
        }
    }

    /** The trace is worth its length: each call that IS taken shows in it. */
    private static void traceTells() {
        List<Long> untouched = trace(rich());
        Call[] taken = {x -> x.feed(1, 0, 0, 0, 0), x -> bit(x.end(0)), x -> bit(x.rule(0, 1)), x -> bit(x.rule(1, 1)),
            x -> bit(x.rule(3, NONE)), x -> bit(x.risk(49)), x -> bit(x.risk(0)), x -> bit(x.seed(3)), x -> bit(x.put(0, 3)),
            x -> bit(x.put(3, 0)), x -> bit(x.lock(4, false)), x -> bit(x.lock(1, true)), x -> x.nights(1), x -> x.undo(),
            x -> x.see(0, 1, 0, true), x -> x.image(), x -> x.back()};
        for (int i = 0; i < taken.length; i++) {
            SleepMoves x = rich();
            taken[i].on(x);
            Check.due("the trace tells taken call " + i, trace(x).equals(untouched), false);
        }
        SleepMoves x = home();
        x.text(0);
        Check.due("the trace tells a street", trace(x).equals(trace(home())), false);
        SleepMoves y = noStreet();
        y.end(0);
        Check.feed(y, "y:1");
        SleepMoves z = noStreet();
        z.end(0);
        Check.feed(z, "y:1");
        z.text(1);
        Check.due("the trace tells a rule", trace(y).equals(trace(z)), false);
        Check.due("and nothing else", trace(rich()).equals(untouched), true);
    }

    // ---- refused calls

    private static long bit(boolean is) {
        return is ? 1 : 0;
    }

    private void refused(String call, long answer, Call made) {
        SleepMoves x = state.made();
        Check.due(name + ": " + call, made.on(x), answer);
        Check.due(name + ": " + call + " changes nothing", trace(x).equals(untouched), true);
    }

    /** What lies beside 0 .. count less 1. */
    private static int[] beside(int count) {
        int[] all = new int[FAR.length + 1];
        System.arraycopy(FAR, 0, all, 0, FAR.length);
        all[FAR.length] = count;
        return all;
    }

    private static int[] besideNights(int most) {
        return new int[] {Integer.MIN_VALUE, -1, 0, most + 1, Integer.MAX_VALUE};
    }

    private void all() {
        tape();
        what();
        hand();
        nights();
        thingQuestions();
        otherQuestions();
        pairsOfArguments();
        tooMany();
        Check.due(name + ": as it was", trace(state.made()).equals(untouched), true);
    }

    private void tape() {
        int length = state.made().count(4);
        for (int n : beside(length + 1)) {
            refused("end " + n, 0, x -> bit(x.end(n)));
        }
        for (int sort : beside(2)) {
            refused("fault " + sort, -2, x -> x.fault(sort));
            refused("text " + sort, NONE, x -> x.text(sort));
        }
        for (int sort = 0; sort <= 1; sort++) {
            int one = sort;
            boolean isFaulty = state.made().fault(sort) != NONE;
            if (isFaulty || (sort == 1 && state.made().count(3) == 5)) {
                refused("text " + sort, NONE, x -> x.text(one));
            }
        }
        if (length > 140) {
            int over = 161 - length;
            int[] numbers = new int[5];
            for (int i = 0; i < over; i++) {
                numbers[4 - i / 4] |= 1 << i % 4 * 8;
            }
            refused("feed", NONE, x -> x.feed(numbers[0], numbers[1], numbers[2], numbers[3], numbers[4]));
            refused("feed of twenty", NONE, x -> x.feed(-1, -1, -1, -1, -1));
        }
    }

    private void what() {
        for (int what : beside(5)) {
            refused("sleeper 0 " + what, Check.GONE, x -> Check.sleeper(x, 0, what));
        }
        for (int what : beside(2)) {
            refused("thing 0 " + what, NONE, x -> x.thing(0, what));
            refused("house 0 " + what, NONE, x -> x.house(0, what));
            refused("met what " + what, HIDDEN, x -> x.met(0, things - 1, 1, what));
            refused("round " + what, NONE, x -> x.round(what));
            refused("test what " + what, NONE, x -> x.test(0, 1, what));
            refused("homing what " + what, HIDDEN, x -> x.homing(1, what));
            refused("guest what " + what, NONE, x -> x.guest(0, 1, 1, what));
        }
        for (int what : beside(3)) {
            refused("fullest what " + what, NONE, x -> x.fullest(1, what));
        }
        for (int what : beside(10)) {
            refused("count " + what, HIDDEN, x -> x.count(what));
        }
    }

    private void hand() {
        int rules = state.made().count(3);
        for (int sleeper : beside(sleepers)) {
            refused("sleeper " + sleeper, Check.GONE, x -> Check.sleeper(x, sleeper, 0));
            refused("rule " + sleeper, 0, x -> bit(x.rule(sleeper, NONE)));
        }
        for (int rule : beside(rules)) {
            if (rule != NONE || !isTold) {
                refused("rule 0 " + rule, 0, x -> bit(x.rule(0, rule)));
            }
        }
        for (int v : beside(101)) {
            refused("risk " + v, 0, x -> bit(x.risk(v)));
        }
        for (int thing : beside(things)) {
            refused("put " + thing, 0, x -> bit(x.put(thing, 0)));
            refused("put into 1 " + thing, 0, x -> bit(x.put(thing, 1)));
            refused("thing " + thing, NONE, x -> x.thing(thing, 0));
        }
        for (int house : beside(houses)) {
            refused("put into " + house, 0, x -> bit(x.put(0, house)));
            refused("lock " + house, 0, x -> bit(x.lock(house, true)));
            refused("open " + house, 0, x -> bit(x.lock(house, false)));
            refused("house " + house, NONE, x -> x.house(house, 0));
        }
        for (int thing = 0; thing < things; thing++) {
            int one = thing;
            refused("put where it lies " + thing, 0, x -> bit(x.put(one, x.thing(one, 0))));
        }
        for (int house = 0; house < houses; house++) {
            int one = house;
            refused("lock as it is " + house, 0, x -> bit(x.lock(one, x.house(one, 1) == 1)));
        }
    }

    private void nights() {
        for (int n : besideNights(60)) {
            refused("nights " + n, NONE, x -> x.nights(n));
        }
        for (int night : new int[] {-1, -7, Integer.MIN_VALUE}) {
            refused("moon " + night, NONE, x -> x.moon(night));
        }
        if (state.made().count(8) == 0) {
            refused("undo", NONE, SleepMoves::undo);
        }
        if (!isTold) {
            refused("nights", NONE, x -> x.nights(1));
            refused("moon", NONE, x -> x.moon(0));
            refused("round", NONE, x -> x.round(0));
            refused("awake", NONE, SleepMoves::awake);
            refused("homing", HIDDEN, x -> x.homing(1, 0));
            refused("homing, out of bounds", HIDDEN, x -> x.homing(0, 0));
            refused("culprit", NONE, x -> x.culprit(1));
            refused("fullest", NONE, x -> x.fullest(1, 0));
            refused("astray", NONE, x -> x.astray(0));
            refused("image", NONE, SleepMoves::image);
        }
        if (state.made().back() == NONE) {
            refused("back", NONE, SleepMoves::back);
        }
    }

    private void thingQuestions() {
        for (int thing : beside(things)) {
            refused("where " + thing, NONE, x -> x.where(thing, 1));
            refused("touched " + thing, NONE, x -> x.touched(thing, 1));
            refused("see " + thing, NONE, x -> x.see(thing, 1, 0, true));
            refused("odds " + thing, NONE, x -> x.odds(thing, 1, 0));
            refused("stay " + thing, NONE, x -> x.stay(thing, 1));
            refused("path " + thing, HIDDEN, x -> x.path(thing, 1, NONE));
            refused("path " + thing + " 0", HIDDEN, x -> x.path(thing, 1, 0));
            refused("span " + thing, NONE, x -> x.span(thing, 1));
        }
        for (int n : besideNights(60)) {
            refused("where n " + n, NONE, x -> x.where(0, n));
            refused("touched n " + n, NONE, x -> x.touched(0, n));
            refused("stay n " + n, NONE, x -> x.stay(0, n));
            refused("path n " + n, HIDDEN, x -> x.path(0, n, NONE));
            refused("path n " + n + " 0", HIDDEN, x -> x.path(0, n, 0));
            refused("span n " + n, NONE, x -> x.span(0, n));
        }
        for (int i : new int[] {-2, 60, Integer.MIN_VALUE, Integer.MAX_VALUE}) {
            refused("path i " + i, isTold ? NONE : HIDDEN, x -> x.path(0, 60, i));
        }
    }

    private void otherQuestions() {
        for (int sleeper : beside(sleepers)) {
            refused("carries " + sleeper, NONE, x -> x.carries(sleeper, 1));
            refused("fits " + sleeper, NONE, x -> x.fits(sleeper));
            refused("test " + sleeper, NONE, x -> x.test(sleeper, 1, 0));
            refused("quiet " + sleeper, NONE, x -> x.quiet(sleeper, 1));
        }
        for (int n : besideNights(60)) {
            refused("carries n " + n, NONE, x -> x.carries(0, n));
            refused("empty n " + n, NONE, x -> x.empty(0, n));
            refused("met n " + n, HIDDEN, x -> x.met(0, things - 1, n, 0));
            refused("test n " + n, NONE, x -> x.test(0, n, 0));
            refused("quiet n " + n, NONE, x -> x.quiet(0, n));
            refused("culprit n " + n, NONE, x -> x.culprit(n));
            refused("guest n " + n, NONE, x -> x.guest(0, 1, n, 0));
            refused("fullest n " + n, NONE, x -> x.fullest(n, 0));
            refused("homing n " + n, isTold && things <= 4 && houses <= 6 ? NONE : HIDDEN, x -> x.homing(n, 0));
            if (n != 0 || !isTold) {
                refused("astray n " + n, NONE, x -> x.astray(n));
            }
        }
        for (int house : beside(houses)) {
            refused("empty " + house, NONE, x -> x.empty(house, 1));
            refused("see house " + house, NONE, x -> x.see(0, 1, house, true));
            refused("odds house " + house, NONE, x -> x.odds(0, 1, house));
            refused("guest " + house, NONE, x -> x.guest(house, 1, 1, 0));
        }
        for (int step : beside(8)) {
            refused("guest step " + step, NONE, x -> x.guest(0, step, 1, 0));
        }
        for (int n : besideNights(30)) {
            refused("see n " + n, NONE, x -> x.see(0, n, 0, true));
        }
        for (int n : besideNights(8)) {
            refused("odds n " + n, NONE, x -> x.odds(0, n, 0));
        }
    }

    private void pairsOfArguments() {
        for (int thing : beside(things)) {
            refused("met one " + thing, HIDDEN, x -> x.met(thing, 0, 1, 0));
            refused("met other " + thing, HIDDEN, x -> x.met(0, thing, 1, 0));
        }
        for (int sleeper : beside(sleepers)) {
            refused("pairs one " + sleeper, NONE, x -> x.pairs(sleeper, 0));
            refused("pairs other " + sleeper, NONE, x -> x.pairs(0, sleeper));
        }
        for (int i = 0; i < 8; i++) {
            int one = i;
            refused("met alike " + i, HIDDEN, x -> x.met(one, one, 1, 0));
            refused("pairs alike " + i, NONE, x -> x.pairs(one, one));
        }
    }

    private void tooMany() {
        if (state.made().count(7) == 20) {
            refused("see 21", NONE, x -> x.see(0, 1, 0, true));
            refused("see 21, not", NONE, x -> x.see(7, 30, 7, false));
        }
        int feverish = 0;
        for (int sleeper = 0; sleeper < sleepers; sleeper++) {
            feverish += Check.sleeper(state.made(), sleeper, 2) == 3 ? 1 : 0;
        }
        for (int n = 1; n <= 8; n++) {
            int nights = n;
            if (n * feverish > 12) {
                refused("odds n " + n, NONE, x -> x.odds(0, nights, 0));
            }
        }
        if (things > 4 || houses > 6) {
            refused("homing", HIDDEN, x -> x.homing(1, 0));
            refused("homing, places", HIDDEN, x -> x.homing(60, 1));
        }
    }
}
