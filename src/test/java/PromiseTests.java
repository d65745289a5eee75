import java.util.NoSuchElementException;

/** Promise by promise: ordinary calls, the edges that the document names, and wrong ones. */
public final class PromiseTests {
    private PromiseTests() {
    }

    public static void main(String[] args) {
        newObject();
        feed();
        end();
        faultOfStreets();
        faultOfRules();
        text();
        textOfRules();
        sleeper();
        thing();
        house();
        rule();
        worth();
        worthLetters();
        worthOfNow();
        risk();
        seed();
        put();
        lock();
        nights();
        kinds();
        followers();
        fever();
        undo();
        undoMost();
        moon();
        where();
        carries();
        touched();
        empty();
        met();
        round();
        see();
        fits();
        pairs();
        awake();
        test();
        odds();
        stay();
        homing();
        quiet();
        culprit();
        guest();
        path();
        span();
        fullest();
        astray();
        image();
        back();
        count();
        apart();
        Check.end();
    }

    private static void due(String call, long got, long want) {
        Check.due(call, got, want);
    }

    private static void due(String call, boolean got, boolean want) {
        Check.due(call, got, want);
    }

    // Promise 1
    private static void newObject() {
        SleepMoves x = new SleepMoves();
        for (int what = 0; what <= 9; what++) {
            due("new: count(" + what + ")", x.count(what), 0);
        }
        due("new: text(0)", x.text(0), -1);
        due("new: text(1)", x.text(1), -1);
        due("new: thing", x.thing(0, 0), -1);
        due("new: house", x.house(0, 0), -1);
        due("new: rule", x.rule(0, -1), false);
        due("new: put", x.put(0, 0), false);
        due("new: lock", x.lock(0, true), false);
        due("new: nights", x.nights(1), -1);
        due("new: undo", x.undo(), -1);
        due("new: moon", x.moon(0), -1);
        due("new: where", x.where(0, 1), -1);
        due("new: carries", x.carries(0, 1), -1);
        due("new: touched", x.touched(0, 1), -1);
        due("new: empty", x.empty(0, 1), -1);
        due("new: met", x.met(0, 1, 1, 0), -1000000);
        due("new: round", x.round(0), -1);
        due("new: see", x.see(0, 1, 0, true), -1);
        due("new: fits", x.fits(0), -1);
        due("new: pairs", x.pairs(0, 1), -1);
        due("new: awake", x.awake(), -1);
        due("new: test", x.test(0, 1, 0), -1);
        due("new: odds", x.odds(0, 1, 0), -1);
        due("new: stay", x.stay(0, 1), -1);
        due("new: homing", x.homing(1, 0), -1000000);
        due("new: homing out of bounds", x.homing(0, 0), -1000000);
        due("new: quiet", x.quiet(0, 1), -1);
        due("new: culprit", x.culprit(1), -1);
        due("new: guest", x.guest(0, 0, 1, 0), -1);
        due("new: path", x.path(0, 1, -1), -1000000);
        due("new: span", x.span(0, 1), -1);
        due("new: fullest", x.fullest(1, 0), -1);
        due("new: astray", x.astray(0), -1);
        due("new: image", x.image(), -1);
        due("new: back", x.back(), -1);
    }

    // Promise 2
    private static void feed() {
        SleepMoves x = new SleepMoves();
        due("feed of nothing", x.feed(0, 0, 0, 0, 0), 0);
        due("feed of four bytes, zeros left out", x.feed(0x68003300, 0, 0x00003B00, 0, 0x00000077), 4);
        due("the highest first: h3;w lacks a thing", x.fault(0), 4);
        due("feed with bytes above 127", x.feed(-1, 0, 0, 0, 0x80000000), 9);
        due("byte 255 is no sign", x.fault(0), 4);
        x.end(0);
        for (int i = 1; i <= 7; i++) {
            due("feed " + i, x.feed(-1, -1, -1, -1, -1), 20 * i);
        }
        due("more than 160", x.feed(-1, -1, -1, -1, -1), 160);
        due("161", x.feed(0, 0, 0, 0, 1), -1);
        due("161 changed nothing", x.count(4), 160);
        due("no more at 160", x.feed(0, 0, 0, 0, 0), 160);
        x.end(150);
        due("11 more", x.feed(-1, -1, 0x01010100, 0, 0), -1);
        due("10 more", x.feed(-1, -1, 0x01010000, 0, 0), 160);
        int[] last = {1, 2, 3, 4, 5};
        for (int i = 0; i < 5; i++) {
            x.end(158);
            last[i] = -1;
            due("too many with number " + i, x.feed(last[0], last[1], last[2], last[3], last[4]), -1);
            last[i] = 0;
            due("without number " + i, x.feed(last[0], last[1], last[2], last[3], last[4]), i < 2 ? -1 : 158 + 4 - i);
        }
    }

    // Promise 3
    private static void end() {
        SleepMoves x = new SleepMoves();
        due("end(0) of nothing", x.end(0), true);
        due("end(1) of nothing", x.end(1), false);
        Check.feed(x, "h3;w;oxxxx");
        due("end(-1)", x.end(-1), false);
        due("end(11)", x.end(11), false);
        due("refused ends change nothing", x.count(4), 10);
        due("end(10)", x.end(10), true);
        due("fault ahead of the end", x.fault(0), 6);
        due("end(6)", x.end(6), true);
        due("its length", x.count(4), 6);
        due("fault behind the end", x.fault(0), -1);
        due("end(7)", x.end(7), false);
        Check.feed(x, ";o");
        due("fed on from the end", x.fault(0), -1);
    }

    private static void streetFault(String text, int want) {
        SleepMoves x = new SleepMoves();
        Check.feed(x, text);
        due("fault(0) of " + text, x.fault(0), want);
        due("count(4) of " + text, x.count(4), text.length());
        if (want >= 0) {
            due("text(0) of " + text, x.text(0), -1);
            due("refused, count(4) of " + text, x.count(4), text.length());
        }
    }

    // Promise 4
    private static void faultOfStreets() {
        String[] whole = {"h2;w;o", "h8;w;o", "h3;o;w", "h3;m;w;o", "h3;o;m;w", "h3;wa2s7k4e1;oa2;mp9g9", "h3;we0k0s0a0;oa0;mg0p2",
            "h2;w;w;w;w;w;o", "h2;o;o;o;o;o;o;o;o;w", " h 3 ; w a 2 ; o ", "h3;w;o   ", "h8;wa7;oa7"};
        for (String text : whole) {
            streetFault(text, -1);
        }
        streetFault("", 0);
        streetFault("   ", 3);
        streetFault("H3;w;o", 0);
        streetFault("h", 1);
        streetFault("h1;w;o", 1);
        streetFault("h9;w;o", 1);
        streetFault("h 9;w;o", 2);
        streetFault("hx", 1);
        streetFault("h33;w;o", 2);
        streetFault("h3 3;w;o", 3);
        streetFault("h3", 2);
        streetFault("h3,", 2);
        streetFault("h3;", 3);
        streetFault("h3;;w;o", 3);
        streetFault("h3;x", 3);
        streetFault("h3;w", 4);
        streetFault("h3;w  ", 6);
        streetFault("h3;o", 4);
        streetFault("h3;m", 4);
        streetFault("h3;w;o;", 7);
        streetFault("h3;w;o;x", 7);
        streetFault("h3;wa", 5);
        streetFault("h3;wa;o", 5);
        streetFault("h3;wa3;o", 5);
        streetFault("h3;wa22;o", 6);
        streetFault("h3;wa2a1;o", 6);
        streetFault("h3;wa2s1k1e1a0;o", 12);
        streetFault("h3;wp2;o", 4);
        streetFault("h3;ws8;o", 5);
        streetFault("h3;wk5;o", 5);
        streetFault("h3;we2;o", 5);
        streetFault("h3;oa3;w", 5);
        streetFault("h3;os1;w", 4);
        streetFault("h3;oa1a1;w", 6);
        streetFault("h3;mp1;w;o", 5);
        streetFault("h3;mp;w;o", 5);
        streetFault("h3;mgg", 5);
        streetFault("h3;mp2p3;w;o", 6);
        streetFault("h3;ma1;w;o", 4);
        streetFault("h3;m;m", 5);
        streetFault("h3;m;w;o;m", 9);
        streetFault("h3;w;w;w;w;w;w;o", 13);
        streetFault("h3;o;o;o;o;o;o;o;o;o;w", 19);
        SleepMoves x = new SleepMoves();
        Check.feed(x, "h3;w;o");
        due("fault(2)", x.fault(2), -2);
        due("fault(-1)", x.fault(-1), -2);
        due("fault(1) of a street", x.fault(1), 0);
    }

    private static void ruleFault(String text, int want) {
        SleepMoves x = new SleepMoves();
        Check.feed(x, text);
        due("fault(1) of " + text, x.fault(1), want);
        due("text(1) of " + text, x.text(1), want < 0 ? 0 : -1);
        due("count(4) behind text(1) of " + text, x.count(4), want < 0 ? 0 : text.length());
    }

    private static void faultOfRules() {
        String[] whole = {"y:n", "y:n+h-s*q/m", "y:w", "y:1234", "y:0000", "y:[n]", "y:[n]*[h+1]", "y:(n=1)?2", "y:n=1?2",
            "y:!n=1?2", "y:!!!!!!n=1?2", "y:((((((n=1))))))?2", "y:[[[[[[n]]]]]]", "y:!(!(!(n=1)))?2", "y:!!!!!!n=1&[n]=1?2",
            "y:n=1|n=2&!n=3?1;y:2", "y:n<1?2;y:n>3?4;y:0", " y : n ; y : 2 ", " y : n = 1 ? 2 ", "y:(n=1|n=2)&n=3?1",
            "y:[n]=1?2", "y:n=[1]&2<3|4>5?[6]", "y:n/0", "y:!(n=1)&(n=2)?3", "y:[[n]]=[[[[[[1]]]]]]?2", "y:n;y:n;y:n"};
        for (String text : whole) {
            ruleFault(text, -1);
        }
        ruleFault("", 0);
        ruleFault("z:n", 0);
        ruleFault("y", 1);
        ruleFault("y;", 1);
        ruleFault("y:", 2);
        ruleFault("y:;", 2);
        ruleFault("y:a", 2);
        ruleFault("y:-1", 2);
        ruleFault("y:n;", 4);
        ruleFault("y:n;n", 4);
        ruleFault("y:n;;y:n", 4);
        ruleFault("y:12345", 6);
        ruleFault("y:n+12345", 8);
        ruleFault("y:1 2", 4);
        ruleFault("y:12 34", 5);
        ruleFault("y:nn", 3);
        ruleFault("y:n+", 4);
        ruleFault("y:n++1", 4);
        ruleFault("y:n*", 4);
        ruleFault("y:[n", 4);
        ruleFault("y:[n)", 4);
        ruleFault("y:[]", 3);
        ruleFault("y:[n=1]", 4);
        ruleFault("y:n]", 3);
        ruleFault("y:n)", 3);
        ruleFault("y:(n)", 4);
        ruleFault("y:()", 3);
        ruleFault("y:(n=1", 6);
        ruleFault("y:(n=1]", 6);
        ruleFault("y:(n=1)", 7);
        ruleFault("y:(n=1)+1", 7);
        ruleFault("y:n=1", 5);
        ruleFault("y:n=1;", 5);
        ruleFault("y:n=1?", 6);
        ruleFault("y:n=?", 4);
        ruleFault("y:n?2", 3);
        ruleFault("y:n|n=1?2", 3);
        ruleFault("y:n&n=1?2", 3);
        ruleFault("y:n=1|", 6);
        ruleFault("y:n=1&&", 6);
        ruleFault("y:n=1=2", 5);
        ruleFault("y:n=1?2=3", 7);
        ruleFault("y:n=1?2?3", 7);
        ruleFault("y:n=1?(2)", 6);
        ruleFault("y:n+(2)", 4);
        ruleFault("y:n=!1", 4);
        ruleFault("y:!n?2", 4);
        ruleFault("y:!;", 3);
        ruleFault("y:(n=1)&n?1", 9);
        ruleFault("y:n+1 y", 6);
        ruleFault("y:!!!!!!!n=1?2", 8);
        ruleFault("y:(((((((n", 8);
        ruleFault("y:[[[[[[[", 8);
        ruleFault("y:[[[ [[[ [", 10);
        ruleFault("y:!(!(!(n=[1])))?2", 10);
        ruleFault("y:!!!!!!n=[1]?2", 10);
        ruleFault("y:!!!!!![n]=1?2", 8);
    }

    // Promise 5
    private static void text() {
        SleepMoves x = new SleepMoves();
        Check.feed(x, "h3;w;wk3;oa1;o;mp3g1");
        due("text(2)", x.text(2), -1);
        due("text(-1)", x.text(-1), -1);
        due("text(1) of a street", x.text(1), -1);
        due("the tape stays", x.count(4), 20);
        due("text(0)", x.text(0), 2);
        due("the tape is empty", x.count(4), 0);
        due("houses", x.count(0), 3);
        due("things", x.count(2), 2);
        Check.rule(x, 0, "y:2");
        x.risk(100);
        x.lock(2, true);
        x.see(0, 1, 1, true);
        x.image();
        x.nights(3);
        Check.feed(x, "h9");
        due("a faulty street", x.text(0), -1);
        due("it changes nothing", x.count(5), 3);
        due("its bytes stay", x.count(4), 2);
        x.end(0);
        Check.feed(x, "h4;wk3;wa1k3;wa2;o;oa2");
        due("another street", x.text(0), 3);
        due("the night", x.count(5), 0);
        due("the period", x.count(6), 0);
        due("rules of sleepers are gone", x.sleeper(0, 4), -1);
        due("rules stay", x.count(3), 1);
        due("locks are gone", x.count(9), 0);
        due("seen are gone", x.count(7), 0);
        due("the image is gone", x.back(), -1);
        due("nights are gone", x.undo(), -1);
        due("things lie as told", x.thing(1, 0), 2);
        due("risk stays", x.nights(1), 1);
        due("the plain one carried", x.thing(1, 0), 3);
        due("the feverish one stayed", x.thing(0, 0), 0);
    }

    private static void textOfRules() {
        SleepMoves x = new SleepMoves();
        for (int i = 0; i < 5; i++) {
            Check.feed(x, "y:n");
            due("text(1)", x.text(1), i);
            due("the tape is empty", x.count(4), 0);
        }
        Check.feed(x, "y:n");
        due("a sixth rule", x.text(1), -1);
        due("its bytes stay", x.count(4), 3);
        due("there are five", x.count(3), 5);
        due("draws stay over a street", drawsStay(), true);
    }

    /** Seeds 0 and 1 tell fevers apart; the seed of an earlier STREET goes on in the next one. */
    private static boolean drawsStay() {
        int differing = 0;
        for (int seed = 0; seed < 10; seed++) {
            SleepMoves one = Check.street("h2;w;o");
            one.risk(50);
            one.seed(seed);
            Check.feed(one, "h2;wk3;o");
            one.text(0);
            SleepMoves other = Check.street("h2;wk3;o");
            other.risk(50);
            other.seed(seed);
            one.nights(1);
            other.nights(1);
            differing += one.thing(0, 0) == other.thing(0, 0) ? 0 : 1;
        }
        return differing == 0;
    }

    private static int sleeperOr(SleepMoves x, int sleeper, int what) {
        try {
            return x.sleeper(sleeper, what);
        } catch (NoSuchElementException e) {
            return -99;
        }
    }

    // Promise 6
    private static void sleeper() {
        SleepMoves x = Check.street("h5;w;wa4s7k4e1;o");
        int[] plain = {0, 1, 0, 0, -1};
        int[] told = {4, 7, 4, 1, -1};
        for (int what = 0; what < 5; what++) {
            due("sleeper(0, " + what + ")", sleeperOr(x, 0, what), plain[what]);
            due("sleeper(1, " + what + ")", sleeperOr(x, 1, what), told[what]);
        }
        Check.rule(x, 1, "y:n");
        due("sleeper(1, 4)", sleeperOr(x, 1, 4), 0);
        due("sleeper(0, 5)", sleeperOr(x, 0, 5), -99);
        due("sleeper(0, -1)", sleeperOr(x, 0, -1), -99);
        due("sleeper(2, 0)", sleeperOr(x, 2, 0), -99);
        due("sleeper(-1, 0)", sleeperOr(x, -1, 0), -99);
        due("sleeper of no street", sleeperOr(new SleepMoves(), 0, 0), -99);
    }

    // Promise 7
    private static void thing() {
        SleepMoves x = Check.street("h5;w;o;oa4");
        x.nights(1);
        due("thing(0, 0)", x.thing(0, 0), 1);
        due("thing(0, 1)", x.thing(0, 1), 0);
        due("thing(1, 0)", x.thing(1, 0), 4);
        due("thing(2, 0)", x.thing(2, 0), -1);
        due("thing(-1, 0)", x.thing(-1, 0), -1);
        due("thing(0, 2)", x.thing(0, 2), -1);
        due("thing(0, -1)", x.thing(0, -1), -1);
    }

    // Promise 8
    private static void house() {
        SleepMoves x = Check.street("h5;w;o;oa4;o;oa4");
        x.lock(4, true);
        due("house(0, 0)", x.house(0, 0), 5);
        due("house(4, 0)", x.house(4, 0), 10);
        due("house(1, 0)", x.house(1, 0), 0);
        due("house(4, 1)", x.house(4, 1), 1);
        due("house(0, 1)", x.house(0, 1), 0);
        due("house(5, 0)", x.house(5, 0), -1);
        due("house(-1, 0)", x.house(-1, 0), -1);
        due("house(0, 2)", x.house(0, 2), -1);
        due("house(0, -1)", x.house(0, -1), -1);
    }

    // Promise 9
    private static void rule() {
        SleepMoves x = Check.street("h5;w;o");
        due("rule(0, 0) without one", x.rule(0, 0), false);
        due("rule(0, NONE)", x.rule(0, -1), true);
        Check.rule(x, 0, "y:3");
        due("by its rule", x.where(0, 1), 3);
        Check.rule(x, 0, "y:4");
        due("by its other rule", x.where(0, 1), 4);
        due("rule(0, 0) again", x.rule(0, 0), true);
        due("by its first rule", x.where(0, 1), 3);
        due("rule(0, 2)", x.rule(0, 2), false);
        due("rule(0, -2)", x.rule(0, -2), false);
        due("rule(1, 0)", x.rule(1, 0), false);
        due("rule(-1, 0)", x.rule(-1, 0), false);
        due("refused ones change nothing", x.where(0, 1), 3);
        due("rule(0, NONE) again", x.rule(0, -1), true);
        due("by its step", x.where(0, 1), 1);
        due("none is told", sleeperOr(x, 0, 4), -1);
    }

    private static void worthIs(String text, int house) {
        SleepMoves x = Check.street("h8;w;o");
        Check.rule(x, 0, text);
        due("where by " + text, x.where(0, 1), house);
    }

    // Terms: WORTH
    private static void worth() {
        worthIs("y:1+2*3", 7);
        worthIs("y:[1+2]*3", 1);
        worthIs("y:9-4-3", 2);
        worthIs("y:9-[4-3]", 0);
        worthIs("y:8/2/2", 2);
        worthIs("y:8/[2/2]", 0);
        worthIs("y:7/2", 3);
        worthIs("y:[0-7]/2", 5);
        worthIs("y:7/[0-2]", 5);
        worthIs("y:2+7/0", 2);
        worthIs("y:0007", 7);
        worthIs("y:[1000*1000*3]/[1000*1000]", 1);
        worthIs("y:[[0-1000]*1000*3]/[1000*1000]", 7);
        worthIs("y:[1000*1000+999]-[1000*1000]", 0);
        worthIs("y:1000*1000+3-1", 7);
        worthIs("y:0-1000*1000-5+1", 1);
        worthIs("y:[1000*1000]*[1000*1000]/9999", 4);
        worthIs("y:1=2?3;y:4", 4);
        worthIs("y:1=1?3;y:4", 3);
        worthIs("y:1=2?3", 0);
        worthIs("y:3;y:4", 3);
        worthIs("y:1>2?3;y:2>2?4;y:2>1?5;y:6", 5);
        worthIs("y:2<1?3;y:2<2?4;y:1<2?5;y:6", 5);
        worthIs("y:1=2|1=1?3;y:4", 3);
        worthIs("y:1=2|1=3?3;y:4", 4);
        worthIs("y:1=1&1=2?3;y:4", 4);
        worthIs("y:1=1&2=2?3;y:4", 3);
        worthIs("y:1=1|1=1&1=2?3;y:4", 3);
        worthIs("y:(1=1|1=1)&1=2?3;y:4", 4);
        worthIs("y:!1=2?3;y:4", 3);
        worthIs("y:!1=1?3;y:4", 4);
        worthIs("y:!!1=1?3;y:4", 3);
        worthIs("y:!1=2&1=1?3;y:4", 3);
        worthIs("y:!1=1&1=2?3;y:4", 4);
        worthIs("y:!(1=1&1=2)?3;y:4", 3);
        worthIs("y:1+1=2?3;y:4", 3);
        worthIs("y:[1+1]*2=4?3;y:4", 3);
        worthIs("y:1=2?3;y:1=3?4", 0);
    }

    private static void worthLetters() {
        SleepMoves x = Check.street("h8;w;wa3s5;o;o;oa3;oa3;oa3;mp3g1");
        String[] texts = {"y:h", "y:s", "y:q", "y:m", "y:w", "y:n"};
        int[] houses = {6, 0, 6, 3, 4, 3};
        int[] tomorrow = {6, 0, 6, 4, 4, 4};
        for (int i = 0; i < 5; i++) {
            Check.rule(x, 1, texts[i]);
            due("thing 2 by " + texts[i], x.where(2, 1), houses[i]);
        }
        x.nights(1);
        x.put(2, 3);
        for (int i = 0; i < 5; i++) {
            x.rule(1, i);
            due("thing 2 on night 1 by " + texts[i], x.where(2, 1), tomorrow[i]);
        }
        SleepMoves y = Check.street("h8;wa3;oa3");
        Check.rule(y, 0, "y:n");
        due("night 0", y.where(0, 1), 3);
        y.put(0, 0);
        y.nights(9);
        y.put(0, 3);
        due("night 9", y.where(0, 1), 4);
    }

    /** q is asked as the SLEEPER begins to walk, not as the NIGHT begins. */
    private static void worthOfNow() {
        SleepMoves x = Check.street("h8;ws1;wa1;oa1;o");
        Check.rule(x, 1, "y:q");
        due("two lie there when it walks", x.where(0, 1), 3);
        x.put(1, 7);
        due("one lies there when it walks", x.where(0, 1), 2);
        x = Check.street("h7;w;wa2k4;o;o;o;o;o;o;o;o");
        Check.rule(x, 0, "y:q");
        Check.rule(x, 1, "y:5");
        due("eight lie there", x.where(0, 1), 1);
        due("none lies at the next one's", x.where(1, 1), 2);
    }

    // Promise 10
    private static void risk() {
        SleepMoves x = new SleepMoves();
        due("risk(0)", x.risk(0), true);
        due("risk(100)", x.risk(100), true);
        due("risk(101)", x.risk(101), false);
        due("risk(-1)", x.risk(-1), false);
        x = Check.street("h2;wk3;o");
        x.risk(40);
        x.risk(101);
        due("refused risk changes nothing", x.odds(0, 1, 0), 400000000);
    }

    // Promise 11
    private static void seed() {
        SleepMoves x = Check.street("h2;wk3;o");
        due("seed", x.seed(Long.MIN_VALUE), true);
        due("seed of no street", new SleepMoves().seed(7), true);
        x.risk(50);
        long[] seeds = {0, 1, 5, -1, 123456789012345L, Long.MAX_VALUE, Long.MIN_VALUE};
        for (long seed : seeds) {
            x.seed(seed);
            long draws = seed;
            for (int night = 0; night < 5; night++) {
                draws = draws * 6364136223846793005L + 1442695040888963407L;
                boolean fever = (draws >>> 33) % 100 < 50;
                x.put(0, 0);
                x.nights(1);
                due("seed " + seed + ", night " + night, x.thing(0, 0), fever ? 0 : 1);
            }
        }
    }

    // Promise 12
    private static void put() {
        SleepMoves x = Check.street("h3;wa2;o;o");
        due("put(1, 2)", x.put(1, 2), true);
        due("put(1, 2) again", x.put(1, 2), false);
        due("it lies there", x.thing(1, 0), 2);
        due("the other one does not", x.thing(0, 0), 0);
        due("as first told", x.thing(1, 1), 0);
        due("put(2, 0)", x.put(2, 0), false);
        due("put(-1, 0)", x.put(-1, 0), false);
        due("put(0, 3)", x.put(0, 3), false);
        due("put(0, -1)", x.put(0, -1), false);
        x.lock(1, true);
        due("put into a locked house", x.put(1, 1), true);
        due("put out of a locked house", x.put(1, 0), true);
    }

    // Promise 13
    private static void lock() {
        SleepMoves x = Check.street("h3;w;wa1;o");
        due("lock(0, false)", x.lock(0, false), false);
        due("lock(0, true)", x.lock(0, true), true);
        due("lock(0, true) again", x.lock(0, true), false);
        due("nothing leaves it", x.where(0, 2), 0);
        due("lock(2, true)", x.lock(2, true), true);
        due("lock(0, false)", x.lock(0, false), true);
        due("nothing comes into the other", x.where(0, 2), 1);
        due("lock(3, true)", x.lock(3, true), false);
        due("lock(-1, true)", x.lock(-1, true), false);
        due("locks", x.count(9), 4);
    }

    // Promise 14
    private static void nights() {
        SleepMoves x = Check.street("h4;w;wa1e1;o;o");
        due("nights(0)", x.nights(0), -1);
        due("nights(61)", x.nights(61), -1);
        due("nights(-1)", x.nights(-1), -1);
        due("refused nights", x.count(5), 0);
        due("nights(1)", x.nights(1), 1);
        due("two walk in a night", x.thing(0, 0), 2);
        due("the other waits", x.thing(1, 0), 0);
        due("nights(60)", x.nights(60), 61);
        due("the other too", x.thing(1, 0), 2);
        SleepMoves y = Check.street("h4;ws0;o");
        due("step 0", y.nights(1), 1);
        due("one house: nothing is taken", y.thing(0, 0), 0);
        due("and nothing carried", y.carries(0, 1), 0);
        SleepMoves z = Check.street("h3;ws3;wa1s7e1;oa1;o;oa1");
        z.nights(1);
        due("three houses on is the same", z.thing(1, 0), 0);
        due("the highest goes round", z.thing(2, 0), 2);
        due("the lower one stays", z.thing(0, 0), 1);
    }

    private static int whereOf(String text, int thing) {
        return Check.street(text).where(thing, 1);
    }

    private static void kinds() {
        due("plain", whereOf("h5;wa1s2k0;oa1", 0), 3);
        due("moon, not full", whereOf("h5;wa1s2k1;oa1;mg1", 0), 3);
        due("moon, full", whereOf("h5;wa1s2k1;oa1;mg0", 0), 4);
        due("moon, none", whereOf("h5;wa1s2k1;oa1", 0), 3);
        due("plain under a full moon", whereOf("h5;wa1s2k0;oa1;m", 0), 3);
        due("following, the first", whereOf("h5;wa1s2k2;oa1", 0), 3);
        due("following, the second", whereOf("h5;ws3;wa1s2k2;oa1", 0), 4);
        due("feverish, without fever", whereOf("h5;wa1s2k3;oa1", 0), 3);
        due("returning", whereOf("h5;wa1s2k4;oa3", 0), 1);
        due("returning takes nothing from its home", whereOf("h5;wa1s2k4;oa1", 0), 1);
        due("returning, the highest", whereOf("h5;wa1s2k4e1;oa3;oa3", 1), 1);
        due("returning, the lowest", whereOf("h5;wa1s2k4;oa3;oa3", 1), 3);
        SleepMoves x = Check.street("h5;wa1k1;oa1;m");
        Check.rule(x, 0, "y:3");
        due("the moon turns a rule's worth", x.where(0, 1), 3);
        x = Check.street("h5;wa1k4;oa4");
        Check.rule(x, 0, "y:3");
        due("returning by a rule", x.where(0, 1), 1);
        x = Check.street("h5;wa1k4;oa4");
        x.lock(4, true);
        due("returning from a locked house", x.where(0, 1), 4);
    }

    private static void followers() {
        due("after a turned one", whereOf("h7;ws2k1;wa1k2;oa1;m", 0), 6);
        due("after one that takes nothing", whereOf("h7;wa5s3;wa1k2;oa1", 0), 4);
        due("after a follower", whereOf("h7;wa5s3;wa6k2;wa1k2;oa1", 0), 4);
        due("after a returning one", whereOf("h8;wa5s3k4;wa1k2;oa1", 0), 4);
        due("a follower with a rule", ruledFollower(), 4);
        SleepMoves x = Check.street("h7;wa5s3k3;wa1k2;oa1");
        x.risk(100);
        x.nights(1);
        due("after one in fever", x.thing(0, 0), 1);
        x.risk(0);
        x.nights(1);
        due("after it without fever", x.thing(0, 0), 4);
    }

    private static int ruledFollower() {
        SleepMoves x = Check.street("h7;wa5s3;wa1k2;oa1");
        Check.rule(x, 1, "y:5");
        return x.where(0, 1);
    }

    private static void fever() {
        SleepMoves x = Check.street("h2;wk3;wa1;o");
        x.seed(77);
        x.nights(3);
        SleepMoves y = Check.street("h2;wk3;wa1;o");
        y.seed(77);
        x.risk(50);
        y.risk(50);
        int same = 0;
        for (int i = 0; i < 40; i++) {
            x.put(0, 0);
            y.put(0, 0);
            x.lock(1, false);
            y.lock(1, false);
            x.nights(1);
            y.nights(1);
            same += x.thing(0, 0) == y.thing(0, 0) ? 1 : 0;
        }
        due("without a risk nothing is drawn", same, 40);
        SleepMoves z = Check.street("h4;wk3;wk3;wk0;o");
        z.risk(1);
        z.seed(1);
        z.nights(1);
        long draws = 1;
        for (int i = 0; i < 2; i++) {
            draws = draws * 6364136223846793005L + 1442695040888963407L;
        }
        z.risk(50);
        Check.feed(z, "h2;wk3;o");
        z.text(0);
        for (int i = 0; i < 20; i++) {
            draws = draws * 6364136223846793005L + 1442695040888963407L;
            z.put(0, 0);
            z.nights(1);
            due("two were drawn in that night, draw " + i, z.thing(0, 0), (draws >>> 33) % 100 < 50 ? 0 : 1);
        }
    }

    // Promise 15
    private static void undo() {
        SleepMoves x = Check.street("h8;w;wa1;wk3;o;o");
        x.risk(50);
        x.seed(9);
        due("undo of none", x.undo(), -1);
        x.nights(2);
        int first = x.thing(0, 0);
        int second = x.thing(1, 0);
        x.lock(5, true);
        x.put(0, 7);
        due("undo", x.undo(), 1);
        due("locks stay", x.count(9), 32);
        due("one is left", x.count(8), 1);
        x.lock(5, false);
        due("again", x.nights(1), 2);
        due("draws, too: thing 0", x.thing(0, 0), first);
        due("draws, too: thing 1", x.thing(1, 0), second);
        due("undo", x.undo(), 1);
        due("undo", x.undo(), 0);
        due("undo of none", x.undo(), -1);
        due("as first told", x.thing(0, 0), 0);
        Check.rule(x, 0, "y:2");
        x.nights(1);
        x.rule(0, -1);
        x.undo();
        due("rules stay", sleeperOr(x, 0, 4), -1);
        due("see and undo", x.see(0, 1, 0, true), 1);
        x.nights(1);
        x.undo();
        due("seen stay", x.count(7), 1);
    }

    private static void undoMost() {
        SleepMoves x = Check.street("h8;w;o");
        Check.rule(x, 0, "y:1");
        x.nights(50);
        due("fifty", x.count(8), 50);
        x.nights(30);
        due("sixty at most", x.count(8), 60);
        for (int night = 79; night >= 20; night--) {
            due("undo to " + night, x.undo(), night);
        }
        due("no more", x.undo(), -1);
        due("the night stays", x.count(5), 20);
    }

    // Promise 16
    private static void moon() {
        SleepMoves x = Check.street("h2;w;o;mp3g4");
        int[] full = {0, 0, 0, 0, 1, 0, 0, 1, 0, 0, 1};
        for (int night = 0; night < full.length; night++) {
            due("moon(" + night + ")", x.moon(night), full[night]);
        }
        due("moon(-2)", x.moon(-2), -1);
        due("moon(most)", x.moon(Integer.MAX_VALUE), (Integer.MAX_VALUE - 4) % 3 == 0 ? 1 : 0);
        x = Check.street("h2;w;o;m");
        due("period 7", x.moon(7), 1);
        due("not 6", x.moon(6), 0);
        due("not 9", x.moon(9), 0);
        due("count(6)", x.count(6), 7);
        x = Check.street("h2;w;o");
        due("no moon", x.moon(0), 0);
    }

    // Promise 17
    private static void where() {
        SleepMoves x = Check.street("h8;w;wa2;wa1;o");
        due("where(0, 1)", x.where(0, 1), 2);
        due("where(0, 2)", x.where(0, 2), 3);
        due("where(0, 60)", x.where(0, 60), 3);
        due("where(0, 0)", x.where(0, 0), -1);
        due("where(0, 61)", x.where(0, 61), -1);
        due("where(1, 1)", x.where(1, 1), -1);
        due("where(-1, 1)", x.where(-1, 1), -1);
        x.lock(3, true);
        due("locks as they are", x.where(0, 2), 2);
        x = Check.street("h2;wk3;o");
        x.risk(100);
        due("without fever", x.where(0, 1), 1);
    }

    // Promise 18
    private static void carries() {
        SleepMoves x = Check.street("h4;w;wa1;o;o;oa1");
        due("carries(0, 5)", x.carries(0, 5), 2);
        due("carries(1, 1)", x.carries(1, 1), 1);
        due("carries(1, 5)", x.carries(1, 5), 3);
        due("carries(1, 0)", x.carries(1, 0), -1);
        due("carries(1, 61)", x.carries(1, 61), -1);
        due("carries(2, 1)", x.carries(2, 1), -1);
        due("carries(-1, 1)", x.carries(-1, 1), -1);
    }

    // Promise 19
    private static void touched() {
        SleepMoves x = Check.street("h4;w;wa1;wa3;o;oa3;oa2");
        due("touched(0, 1)", x.touched(0, 1), 3);
        due("touched(1, 1)", x.touched(1, 1), 4);
        due("touched(1, 3)", x.touched(1, 3), 7);
        due("touched(2, 9)", x.touched(2, 9), 0);
        due("touched(0, 0)", x.touched(0, 0), -1);
        due("touched(0, 61)", x.touched(0, 61), -1);
        due("touched(3, 1)", x.touched(3, 1), -1);
        due("touched(-1, 1)", x.touched(-1, 1), -1);
    }

    // Promise 20
    private static void empty() {
        SleepMoves x = Check.street("h3;w;wk4;o");
        due("there and back: empty(0)", x.empty(0, 5), 0);
        due("there and back: empty(1)", x.empty(1, 5), 5);
        x = Check.street("h3;w;o;o");
        due("empty(0, 60)", x.empty(0, 60), 59);
        due("empty(1, 60)", x.empty(1, 60), 0);
        due("empty(2, 7)", x.empty(2, 7), 7);
        due("empty(3, 1)", x.empty(3, 1), -1);
        due("empty(-1, 1)", x.empty(-1, 1), -1);
        due("empty(0, 0)", x.empty(0, 0), -1);
        due("empty(0, 61)", x.empty(0, 61), -1);
    }

    // Promise 21
    private static void met() {
        SleepMoves x = Check.street("h3;w;oa2;o;oa1;oa2");
        due("met(1, 2, 5, 0)", x.met(1, 2, 5, 0), 5);
        due("met(1, 2, 5, 1)", x.met(1, 2, 5, 1), 1);
        due("met(0, 1, 5, 0)", x.met(0, 1, 5, 0), 0);
        due("met(0, 1, 5, 1)", x.met(0, 1, 5, 1), -1);
        due("met(0, 3, 60, 0)", x.met(0, 3, 60, 0), 60);
        due("together now alone", Check.street("h3;w;o;o").met(0, 1, 1, 0), 0);
        due("the second night", Check.street("h3;w;o;o").met(1, 0, 9, 1), 2);
        due("from then on", Check.street("h3;w;o;o").met(1, 0, 9, 0), 8);
        due("met(0, 0)", x.met(0, 0, 5, 0), -1000000);
        due("met(0, 4)", x.met(0, 4, 5, 0), -1000000);
        due("met(-1, 0)", x.met(-1, 0, 5, 0), -1000000);
        due("met n 0", x.met(0, 1, 0, 0), -1000000);
        due("met n 61", x.met(0, 1, 61, 0), -1000000);
        due("met what 2", x.met(0, 1, 1, 2), -1000000);
        due("met what -1", x.met(0, 1, 1, -1), -1000000);
    }

    // Promise 22
    private static void round() {
        SleepMoves x = Check.street("h3;w;o;o");
        due("round(0)", x.round(0), 2);
        due("round(1)", x.round(1), 1);
        due("round(2)", x.round(2), -1);
        due("round(-1)", x.round(-1), -1);
        x = Check.street("h3;w;wa1k0;wa2;o");
        due("round and round, night 0", x.round(0), 0);
        due("round and round, one on", x.round(1), 1);
        x = Check.street("h3;ws0;o;mp9g5");
        due("the moon's stand", x.round(1), 9);
        due("from now", x.round(0), 0);
        x = Check.street("h3;w;o;mp2g9");
        due("ahead of the first full moon, too", x.round(0), 1);
        due("ahead of the first full moon, on", x.round(1), 2);
        due("behind 200 nights", longRound(199).round(0), 2);
        due("so many on", longRound(199).round(1), 198);
        due("behind 201 nights", longRound(200).round(0), -1);
        due("so many on, none", longRound(200).round(1), -1);
    }

    /** Two things told where to lie by n alone: so many nights on as at first, ahead of that never twice so. */
    private static SleepMoves longRound(int again) {
        SleepMoves x = Check.street("h8;wk4;w;wk4e1;we1;oa1;oa1;mp9");
        String asAtFirst = "y:n=" + again + "?1;";
        Check.rule(x, 0, "y:n/9-n/63*7+1");
        Check.rule(x, 1, asAtFirst + "y:[n+1]/9-[n+1]/63*7+1");
        Check.rule(x, 2, "y:n/63+1");
        Check.rule(x, 3, asAtFirst + "y:[n+1]/63+1");
        return x;
    }

    // Promise 23
    private static void see() {
        SleepMoves x = Check.street("h3;w;o;o");
        due("see thing 2", x.see(2, 1, 0, true), -1);
        due("see thing -1", x.see(-1, 1, 0, true), -1);
        due("see house 3", x.see(0, 1, 3, true), -1);
        due("see house -1", x.see(0, 1, -1, true), -1);
        due("see n 0", x.see(0, 0, 0, true), -1);
        due("see n 31", x.see(0, 31, 0, true), -1);
        due("refused", x.count(7), 0);
        for (int i = 1; i <= 20; i++) {
            due("see " + i, x.see(1, 30, 1, true), i);
        }
        due("a twenty-first", x.see(1, 30, 1, true), -1);
        due("twenty", x.count(7), 20);
        due("behind thirty nights", x.fits(0), 2);
    }

    // Promise 24
    private static void fits() {
        SleepMoves x = Check.street("h4;w;wa1k2;o;oa1");
        due("nothing was seen", x.fits(0), 15);
        x.see(0, 1, 2, true);
        due("by itself, or taken on by who follows", x.fits(0), 6);
        due("a follower's own steps are nothing to it", x.fits(1), 15);
        x = Check.street("h4;w;wa1k2;o;oa1");
        x.see(0, 1, 0, false);
        x.see(1, 1, 3, true);
        due("both", x.fits(0), 4);
        due("fits(2)", x.fits(2), -1);
        due("fits(-1)", x.fits(-1), -1);
        x = Check.street("h4;wk1;o;m");
        x.see(0, 1, 3, true);
        due("kind as told: turned", x.fits(0), 2);
        x = Check.street("h4;w;o");
        Check.rule(x, 0, "y:3");
        x.see(0, 2, 2, true);
        due("without its rule", x.fits(0), 4);
        x = Check.street("h5;wk3;o");
        x.risk(100);
        x.see(0, 1, 4, true);
        due("without fever", x.fits(0), 16);
        x.nights(1);
        due("from the now of the asking", x.fits(0), 16);
    }

    // Promise 25
    private static void pairs() {
        SleepMoves x = Check.street("h4;w;wa1;o");
        due("nothing was seen", x.pairs(0, 1), 16);
        x.see(0, 1, 3, true);
        due("3 and any, 1 and 2", x.pairs(0, 1), 5);
        due("the other way", x.pairs(1, 0), 5);
        due("pairs(0, 0)", x.pairs(0, 0), -1);
        due("pairs(0, 2)", x.pairs(0, 2), -1);
        due("pairs(-1, 0)", x.pairs(-1, 0), -1);
    }

    // Promise 26
    private static void awake() {
        SleepMoves x = Check.street("h4;w;wa1;wa2;o");
        due("nothing was seen", x.awake(), 0);
        x.see(0, 1, 1, true);
        due("the first by none", x.awake(), 1);
        x.see(0, 2, 0, true);
        due("none by any", x.awake(), 7);
    }

    // Promise 27
    private static void test() {
        SleepMoves x = Check.street("h4;wa1;o;oa2");
        due("thing 0, house 1", x.test(0, 1, 0), 1);
        due("four kinds", x.test(0, 1, 1), 4);
        x = Check.street("h4;wa1;w;oa2;o");
        x.lock(2, true);
        due("with a lock", x.test(0, 1, 1), 2);
        x = Check.street("h4;wa1;wa2k2;oa2");
        due("a follower's steps are all alike", x.test(1, 3, 1), 1);
        due("so it is the least", x.test(1, 3, 0), 0);
        due("test(2)", x.test(2, 1, 0), -1);
        due("test(-1)", x.test(-1, 1, 0), -1);
        due("test n 0", x.test(0, 0, 0), -1);
        due("test n 61", x.test(0, 61, 0), -1);
        due("test what 2", x.test(0, 1, 2), -1);
        due("test what -1", x.test(0, 1, -1), -1);
        x = Check.street("h4;wa3;o;oa3");
        due("the lower thing is in the way of the other", x.test(0, 1, 0), 3);
        x = Check.street("h4;wa3e1;oa3;oa3");
        due("the higher one", x.test(0, 1, 0), 13);
    }

    // Promise 28
    private static void odds() {
        SleepMoves x = Check.street("h3;wk3;o");
        due("no risk", x.odds(0, 1, 1), 1000000000);
        x.risk(33);
        due("stays once", x.odds(0, 1, 0), 330000000);
        due("stays six times, cut", x.odds(0, 6, 0), 1291467);
        due("else it goes", x.odds(0, 6, 1), 1000000000 - 1291467);
        due("nowhere else", x.odds(0, 6, 2), 0);
        due("odds n 0", x.odds(0, 0, 0), -1);
        due("odds n 9", x.odds(0, 9, 0), -1);
        due("odds thing", x.odds(1, 1, 0), -1);
        due("odds thing -1", x.odds(-1, 1, 0), -1);
        due("odds house", x.odds(0, 1, 3), -1);
        due("odds house -1", x.odds(0, 1, -1), -1);
        x.risk(100);
        due("always in fever", x.odds(0, 8, 0), 1000000000);
        x = Check.street("h3;wk3;wk3;wa1k3;oa1");
        x.risk(50);
        due("twelve walks, cut at the last", x.odds(0, 4, 1), 64 * 976561);
        due("fifteen walks", x.odds(0, 5, 1), -1);
        x = Check.street("h4;wk3;wa1k2;oa1;oa3");
        x.risk(10);
        due("fever goes on to who follows", x.odds(0, 1, 1), 100000000);
        due("else not", x.odds(0, 1, 2), 900000000);
        x.lock(2, true);
        due("locks as they are", x.odds(0, 1, 1), 1000000000);
        due("eight nights without feverish ones", Check.street("h4;w;o").odds(0, 8, 1), 1000000000);
        due("eight nights of five", Check.street("h4;w;w;w;w;w;o").odds(0, 8, 1), 1000000000);
    }

    // Promise 29
    private static void stay() {
        SleepMoves x = Check.street("h4;wa1;wa2k4;oa1;oa3;oa2");
        due("its own is not the least", x.stay(0, 5), 2);
        due("it stays, whatever is locked", x.stay(2, 5), 0);
        due("what is taken home", x.stay(1, 5), 4);
        x.lock(1, true);
        x.lock(2, true);
        due("these, no others", x.stay(0, 5), 2);
        x = Check.street("h4;wa3;oa3");
        due("the house to which it would go", x.stay(0, 1), 1);
        due("stay n 0", x.stay(0, 0), -1);
        due("stay n 61", x.stay(0, 61), -1);
        due("stay thing", x.stay(1, 1), -1);
        due("stay thing -1", x.stay(-1, 1), -1);
        x = Check.street("h4;w;wa1k0s3;o");
        due("there and back in one night", x.stay(0, 9), 0);
    }

    // Promise 30
    private static void homing() {
        SleepMoves x = Check.street("h3;wa1k4;oa1;oa2");
        due("one has to be put", x.homing(1, 0), 1);
        due("beside the other one", x.homing(1, 1), 22);
        x = Check.street("h4;ws0;oa3;oa1;o;oa2");
        due("all lie at home", x.homing(60, 0), 0);
        due("their places", x.homing(60, 1), 3102);
        x.put(0, 1);
        x.put(2, 3);
        due("two have to be put back", x.homing(60, 0), 2);
        due("as they were told", x.homing(60, 1), 3102);
        x = Check.street("h3;w;o");
        due("it can't be", x.homing(1, 0), -1);
        due("it can't be, places", x.homing(1, 1), -1);
        due("homing n 0", x.homing(0, 0), -1);
        due("homing n 61", x.homing(61, 1), -1);
        due("homing what 2", x.homing(1, 2), -1000000);
        due("homing what -1", x.homing(1, -1), -1000000);
        due("seven houses", Check.street("h7;w;o").homing(1, 0), -1000000);
        due("six houses", Check.street("h6;w;oa2").homing(1, 1), 2);
        due("five things", Check.street("h2;w;o;o;o;o;o").homing(1, 0), -1000000);
        due("four things", Check.street("h2;w;oa1;oa1;oa1;oa1").homing(1, 1), 1111);
    }

    // Promise 31
    private static void quiet() {
        SleepMoves x = Check.street("h5;w;wa3k2;o;oa3");
        due("quiet(0, 1): it and who follows", x.quiet(0, 1), 2);
        due("quiet(1, 1)", x.quiet(1, 1), 1);
        due("quiet(2, 1)", x.quiet(2, 1), -1);
        due("quiet(-1, 1)", x.quiet(-1, 1), -1);
        due("quiet(0, 0)", x.quiet(0, 0), -1);
        due("quiet(0, 61)", x.quiet(0, 61), -1);
        x = Check.street("h5;w;o");
        Check.rule(x, 0, "y:2");
        due("with a rule, too", x.quiet(0, 3), 1);
    }

    // Promise 32
    private static void culprit() {
        SleepMoves x = Check.street("h5;wa4;w;wa3k2;o;oa3");
        due("culprit(1)", x.culprit(1), 1);
        due("by none", Check.street("h5;wa4;wa3;o").culprit(3), 0);
        due("of several the lowest", Check.street("h5;wa4;wa3;wa1;oa1;oa3").culprit(1), 1);
        due("culprit(0)", x.culprit(0), -1);
        due("culprit(61)", x.culprit(61), -1);
        due("no street", new SleepMoves().culprit(1), -1);
    }

    // Promise 33
    private static void guest() {
        SleepMoves x = Check.street("h4;w;o;oa2;oa2");
        due("guest(2, 1, 1, 0)", x.guest(2, 1, 1, 0), 1);
        due("guest(2, 1, 5, 1)", x.guest(2, 1, 5, 1), 2);
        due("the last one: carries what came", x.guest(1, 7, 1, 1), 1);
        due("back to where it was", x.guest(1, 7, 1, 0), 1);
        due("the lowest", x.guest(2, 1, 1, 1), 1);
        due("step 0", x.guest(2, 0, 1, 1), 0);
        due("a whole round", x.guest(2, 4, 1, 0), 0);
        due("guest step 8", x.guest(2, 8, 1, 0), -1);
        due("guest step -1", x.guest(2, -1, 1, 0), -1);
        due("guest home 4", x.guest(4, 1, 1, 0), -1);
        due("guest home -1", x.guest(-1, 1, 1, 0), -1);
        due("guest n 0", x.guest(0, 1, 0, 0), -1);
        due("guest n 61", x.guest(0, 1, 61, 0), -1);
        due("guest what 2", x.guest(0, 1, 1, 2), -1);
        due("guest what -1", x.guest(0, 1, 1, -1), -1);
        x = Check.street("h4;w;w;w;w;w;oa3");
        due("a sixth one", x.guest(3, 2, 1, 1), 1);
        SleepMoves y = Check.street("h4;wa1s2;o;oa1;o");
        Check.rule(y, 0, "y:n*2");
        due("the lowest thing goes, so the other one walks with it", y.guest(0, 1, 2, 0), 3);
        due("no more of it", x.carries(0, 1), 0);
    }

    // Promise 34
    private static void path() {
        SleepMoves x = Check.street("h8;w;wa2;wa1;o;oa7");
        due("how many", x.path(0, 9, -1), 2);
        due("each night's last", x.path(0, 9, 0), 2);
        due("then", x.path(0, 9, 1), 3);
        due("no such one", x.path(0, 9, 2), -1);
        due("no such one, either", x.path(0, 9, -2), -1);
        due("of one night", x.path(0, 1, 1), -1);
        due("of one that stays", x.path(1, 9, -1), 0);
        due("its first", x.path(1, 9, 0), -1);
        due("path n 0", x.path(0, 0, 0), -1000000);
        due("path n 61", x.path(0, 61, -1), -1000000);
        due("path thing", x.path(2, 1, -1), -1000000);
        due("path thing -1", x.path(-1, 1, -1), -1000000);
        due("there and back in one night", Check.street("h4;w;wa1s3;o").path(0, 9, -1), 0);
    }

    // Promise 35
    private static void span() {
        SleepMoves x = Check.street("h8;w;wa1e1;o;oa1;oa7");
        due("span(0, 3)", x.span(0, 3), 1);
        due("span(0, 60)", x.span(0, 60), 58);
        due("span(2, 60)", x.span(2, 60), 60);
        due("span(0, 1)", x.span(0, 1), 0);
        due("span(0, 0)", x.span(0, 0), -1);
        due("span(0, 61)", x.span(0, 61), -1);
        due("span(3, 1)", x.span(3, 1), -1);
        due("span(-1, 1)", x.span(-1, 1), -1);
        x = Check.street("h2;w;o");
        Check.rule(x, 0, "y:n>2&n<9?1;y:0");
        due("the first three are the most of six", x.span(0, 6), 3);
        due("the last of eight", x.span(0, 8), 4);
    }

    // Promise 36
    private static void fullest() {
        SleepMoves x = Check.street("h4;ws2;wa1;o;oa1;oa2;oa3");
        due("how many", x.fullest(1, 0), 3);
        due("the night", x.fullest(9, 1), 1);
        due("the house", x.fullest(9, 2), 2);
        x = Check.street("h4;w;o;o;o;oa3;oa3");
        due("now is not asked", x.fullest(1, 0), 2);
        due("the lowest house", x.fullest(1, 2), 0);
        due("more in the third night", x.fullest(9, 1), 3);
        due("three", x.fullest(9, 0), 3);
        x.nights(1);
        due("nights from now", x.fullest(9, 1), 2);
        due("fullest n 0", x.fullest(0, 0), -1);
        due("fullest n 61", x.fullest(61, 0), -1);
        due("fullest what 3", x.fullest(1, 3), -1);
        due("fullest what -1", x.fullest(1, -1), -1);
    }

    // Promise 37
    private static void astray() {
        SleepMoves x = Check.street("h4;w;wa1;o;o;oa3");
        due("astray(0)", x.astray(0), 0);
        due("astray(1)", x.astray(1), 1);
        due("astray(2)", x.astray(2), 3);
        x.put(2, 1);
        due("now", x.astray(0), 4);
        due("astray(60)", x.astray(60), 7);
        due("astray(-1)", x.astray(-1), -1);
        due("astray(61)", x.astray(61), -1);
    }

    // Promise 38, 39
    private static void image() {
        SleepMoves x = Check.street("h4;w;wk3;o;oa3");
        due("image()", x.image(), 0);
        x.nights(2);
        due("instead of the one ahead", x.image(), 2);
        x.nights(1);
        due("back()", x.back(), 2);
        due("the night", x.count(5), 2);
    }

    private static void back() {
        SleepMoves x = Check.street("h4;wk3;o;oa3");
        due("no image", x.back(), -1);
        x.risk(50);
        x.seed(3);
        x.lock(2, true);
        x.nights(1);
        x.put(0, 0);
        x.image();
        x.nights(1);
        int then = x.thing(0, 0);
        x.lock(2, false);
        x.lock(1, true);
        x.put(1, 2);
        due("back()", x.back(), 1);
        due("things lie so again", x.house(0, 0), 1);
        due("the other one, too", x.thing(1, 0), 3);
        due("locks", x.count(9), 4);
        due("no night can be undone", x.count(8), 0);
        due("none", x.undo(), -1);
        x.nights(1);
        due("draws are so again", x.thing(0, 0), then);
        due("one night can be undone", x.count(8), 1);
        due("back() again", x.back(), 1);
        x.nights(1);
        x.undo();
        due("an image outlasts what is undone", x.back(), 1);
        Check.feed(x, "h4;w;o");
        x.text(0);
        due("no image of this street", x.back(), -1);
    }

    // Promise 40
    private static void count() {
        SleepMoves x = Check.street("h6;w;w;w;o;o;mp4");
        Check.rule(x, 0, "y:1");
        Check.feed(x, "h3");
        x.nights(3);
        x.undo();
        x.lock(0, true);
        x.lock(5, true);
        x.see(0, 1, 0, true);
        int[] due = {6, 3, 2, 1, 2, 2, 4, 1, 2, 33};
        for (int what = 0; what < due.length; what++) {
            due("count(" + what + ")", x.count(what), due[what]);
        }
        due("count(10)", x.count(10), -1000000);
        due("count(-1)", x.count(-1), -1000000);
    }

    /** Questions leave everything as it is. */
    private static void apart() {
        SleepMoves x = Check.street("h4;w;wk3;o;oa3;mp3");
        x.risk(50);
        x.nights(2);
        int places = x.house(0, 0) << 16 | x.house(1, 0) << 12 | x.house(2, 0) << 8 | x.house(3, 0);
        x.where(0, 9);
        x.odds(0, 4, 1);
        x.stay(0, 9);
        x.homing(9, 0);
        x.guest(1, 1, 9, 0);
        x.test(0, 9, 0);
        x.culprit(9);
        x.round(0);
        x.awake();
        due("places", x.house(0, 0) << 16 | x.house(1, 0) << 12 | x.house(2, 0) << 8 | x.house(3, 0), places);
        due("the night", x.count(5), 2);
        due("locks", x.count(9), 0);
        due("undone", x.count(8), 2);
    }
}
