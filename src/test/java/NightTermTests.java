/** The Terms of the document, section 2, sentence by sentence: NIGHTS, KINDS, FEVER, what is UNDONE. */
public final class NightTermTests {
    private static final long FACTOR = 6364136223846793005L;
    private static final long MORE = 1442695040888963407L;

    private NightTermTests() {
    }

    public static void main(String[] args) {
        nightsGoBy();
        fevers();
        Check.end();
    }

    private static void due(String call, long got, long want) {
        Check.due(call, got, want);
    }

    private static void due(String call, boolean got, boolean want) {
        Check.due(call, got, want);
    }

    // ==== 2. NIGHTS

    private static void nightsGoBy() {
        fromZero();
        byNumbers();
        moonKind();
        followingKind();
        returningKind();
        nothingTaken();
        strideAsItIs();
        undone();
    }

    /** "NIGHTS are numbered from 0." */
    private static void fromZero() {
        SleepMoves x = Check.ruled("h4;w;o", "y:n=0?1;y:0");
        due("the night that is first", x.count(5), 0);
        due("it is night 0", x.where(0, 1), 1);
        due("night 1 is next", x.nights(1), 1);
        due("carried in night 0", x.thing(0, 0), 1);
        x.put(0, 0);
        due("not in night 1", x.where(0, 1), 0);
    }

    /** "In a NIGHT SLEEPERS walk one behind the other, by numbers." */
    private static void byNumbers() {
        due("five take it on", Check.street("h8;w;wa1;wa2;wa3;wa4;o").where(0, 1), 5);
        due("five the other way round take it once", Check.street("h8;wa4;wa3;wa2;wa1;w;o").where(0, 1), 1);
    }

    /** "1 moon: turned round (less 0), if the MOON is full." */
    private static void moonKind() {
        SleepMoves x = Check.street("h8;wk1s3;o;mp2g1");
        int[] houses = {3, 5, 3, 5};
        for (int night = 0; night < 4; night++) {
            due("night " + night, x.where(0, 1), houses[night]);
            x.nights(1);
            x.put(0, 0);
        }
        due("0 stays 0", Check.street("h8;wk1s0;o;m").where(0, 1), 0);
        due("another kind is not turned", Check.street("h8;wk3s3;o;m").where(0, 1), 3);
        due("nor a returning one", Check.street("h8;wk4s3;oa3;m").where(0, 1), 0);
    }

    /** "2 following: the STRIDE with which the SLEEPER ahead by number walked this NIGHT (the first one: its own)." */
    private static void followingKind() {
        due("the first: its own", Check.street("h8;wk2s3;o").where(0, 1), 3);
        due("the first: its own by a rule", Check.ruled("h8;wk2s3;o", "y:5").where(0, 1), 5);
        due("the second", Check.street("h8;wa7s3;wk2s5;o").where(0, 1), 3);
        due("the last of five", Check.street("h8;wa7s3;wa7k2;wa7k2;wa7k2;wk2;o").where(0, 1), 3);
        due("turned", Check.street("h8;wa7s3k1;wk2;o;m").where(0, 1), 5);
        due("far", afterRule("y:0-9999*9999"), 6);
    }

    private static int afterRule(String rule) {
        SleepMoves x = Check.street("h7;wa6;wk2s5;o");
        Check.rule(x, 0, rule);
        return x.where(0, 1);
    }

    /** "4 returning: as plain, the other way.", "KIND 4: from that HOUSE to its HOME" */
    private static void returningKind() {
        due("home", Check.street("h8;wa2s3k4;oa5").where(0, 1), 2);
        due("home round the end", Check.street("h8;wa6s3k4;oa1").where(0, 1), 6);
        due("home from behind", Check.ruled("h8;wa2k4;oa7", "y:0-3").where(0, 1), 2);
        due("not from its home", Check.street("h8;wa2s3k4;oa2").where(0, 1), 2);
        due("the highest", Check.street("h8;wa2s3k4e1;oa5;oa5").astray(1), 2);
        due("the lowest", Check.street("h8;wa2s3k4;oa5;oa5").astray(1), 1);
    }

    /** "Nothing is taken, if no THING lies there, both are one HOUSE, or one of both is LOCKED." */
    private static void nothingTaken() {
        due("no thing lies there", Check.street("h4;w;oa1").carries(0, 1), 0);
        due("step 0", Check.street("h4;ws0;o").carries(0, 1), 0);
        due("once round", Check.street("h4;ws4;o").carries(0, 1), 0);
        due("one short of once round", Check.street("h4;ws3;o").carries(0, 1), 1);
        due("one more than once round", Check.street("h4;ws5;o").carries(0, 1), 1);
        due("once round back", Check.ruled("h4;w;o", "y:0-4").carries(0, 1), 0);
        due("once round, returning", Check.street("h4;ws4k4;o").carries(0, 1), 0);
        String[] streets = {"h4;w;o", "h4;wk4;oa1"};
        for (String street : streets) {
            for (int house = 0; house < 4; house++) {
                SleepMoves x = Check.street(street);
                x.lock(house, true);
                due(street + ", locked " + house, x.carries(0, 1), house < 2 ? 0 : 1);
                due(street + ", left, locked " + house, x.astray(1), house < 2 ? 0 : 1);
            }
        }
    }

    /** "(STRIDE is as it is, whether something is taken or not; who is in FEVER has the STRIDE 0.)" */
    private static void strideAsItIs() {
        due("ahead lies nothing", Check.street("h8;wa7s3;wk2;o").where(0, 1), 3);
        SleepMoves x = Check.street("h8;wa7s3;wk2;o;oa7");
        x.lock(7, true);
        due("ahead is locked", x.where(0, 1), 3);
        due("ahead goes once round", Check.street("h8;wa7s0;wk2s5;o").where(0, 1), 0);
        SleepMoves y = Check.street("h8;wa7s3k3;wk2s5;o");
        y.risk(100);
        y.nights(1);
        due("ahead is in fever", y.thing(0, 0), 0);
        y.risk(0);
        y.nights(1);
        due("ahead is not in fever", y.thing(0, 0), 3);
    }

    /** "The latest NIGHTS (60 at most) can be UNDONE: all lies as ahead of that NIGHT (draws, too)." */
    private static void undone() {
        SleepMoves x = Check.ruled("h8;w;o", "y:n+1");
        due("none at first", x.undo(), -1);
        x.nights(59);
        due("59", x.count(8), 59);
        x.nights(1);
        due("60", x.count(8), 60);
        x.nights(1);
        due("60 of 61", x.count(8), 60);
        for (int night = 60; night >= 1; night--) {
            due("undo", x.undo(), night);
            due("left", x.count(8), night - 1);
        }
        due("a sixty-first", x.undo(), -1);
        due("the night stays", x.count(5), 1);
        due("as ahead of night 1", x.thing(0, 0), 1);
        x.nights(60);
        x.nights(60);
        x.nights(5);
        due("night 126", x.count(5), 126);
        for (int i = 0; i < 60; i++) {
            x.undo();
        }
        due("night 66", x.count(5), 66);
        due("no more", x.undo(), -1);
        eachPlaceBack();
        drawsBack();
    }

    private static void eachPlaceBack() {
        SleepMoves x = Check.street("h7;w;wa1s2;wa3s3e1;wa6s4;wa5s5;o;oa1;oa3;oa6;oa5;oa2;o;oa4;mp2");
        int[] places = new int[70];
        for (int night = 0; night < 70; night++) {
            places[night] = Check.placesOf(x);
            if (night % 9 == 8) {
                x.put(night % 8, 0);
                x.put(night % 8, 1 + night % 6);
                places[night] = Check.placesOf(x);
            }
            x.nights(1);
        }
        for (int night = 69; night >= 10; night--) {
            due("undo", x.undo(), night);
            due("places ahead of night " + night, Check.placesOf(x), places[night]);
        }
    }

    private static void drawsBack() {
        long[] seeds = {0, 1, 2, 3, -1, -2, Long.MIN_VALUE, Long.MAX_VALUE, 0x7FFFFFFFL, 0x80000000L, 0xFFFFFFFFL, 0x100000000L,
            0x123456789ABCDEFL};
        for (long seed : seeds) {
            SleepMoves x = Check.street("h2;wk3;o");
            x.risk(50);
            x.seed(seed);
            int there = Check.walkThere(x);
            for (int i = 0; i < 20; i++) {
                x.undo();
            }
            due("draws are back, seed " + seed, Check.walkThere(x), there);
            x.undo();
            x.seed(seed ^ 5);
            x.nights(1);
            x.undo();
            due("the seed told between is undone to, seed " + seed, Check.walkThere(x), Check.walkFrom(seed ^ 5));
        }
    }

    // ==== 2. FEVER

    private static void fevers() {
        noRisk();
        riskBelow();
        firstSeed();
        drawsGoRound();
        onlyKindThree();
    }

    /** "with a RISK above 0 (0 .. 100; 0 at first)" */
    private static void noRisk() {
        SleepMoves x = Check.street("h2;wk3;o");
        due("at first nobody is in fever", Check.walkThere(x), 0);
        due("at first no draw was made", x.risk(50), true);
        due("the draws are those from 0", Check.walkThere(x), Check.walkFrom(0));
        SleepMoves y = Check.street("h2;wk3;o");
        y.risk(100);
        due("always", Check.walkThere(y), (1 << 20) - 1);
        y.seed(4);
        y.risk(0);
        due("never", Check.walkThere(y), 0);
        y.risk(50);
        due("risk 0 draws nothing", Check.walkThere(y), Check.walkFrom(4));
        SleepMoves z = Check.street("h2;wk3;o");
        z.seed(4);
        z.risk(1);
        z.nights(1);
        z.risk(50);
        due("risk 1 draws", Check.walkThere(z), Check.walkFrom(4 * FACTOR + MORE));
        z.seed(4);
        z.risk(100);
        z.nights(1);
        z.risk(50);
        due("risk 100 draws", Check.walkThere(z), Check.walkFrom(4 * FACTOR + MORE));
    }

    /** "has a draw of 100 below RISK": with the draw itself not, with one more it has. */
    private static void riskBelow() {
        boolean[] seen = new boolean[100];
        for (long seed = 0; seed < 400; seed++) {
            int draw = (int) (((seed * FACTOR + MORE) >>> 33) % 100);
            if (!seen[draw]) {
                seen[draw] = true;
                due("draw " + draw + ", risk " + draw, inFever(seed, draw), 0);
                due("draw " + draw + ", risk one more", inFever(seed, draw + 1), 1);
            }
        }
        due("draws 0 and 99 were among them", seen[0] && seen[99], true);
    }

    private static int inFever(long seed, int risk) {
        SleepMoves x = Check.street("h2;wk3;o");
        x.seed(seed);
        x.risk(risk);
        x.nights(1);
        return 1 - x.thing(0, 0);
    }

    /** "x, at first the seed told (0 at first)" */
    private static void firstSeed() {
        for (int risk = 1; risk <= 100; risk += 9) {
            SleepMoves x = Check.street("h2;wk3;o");
            x.risk(risk);
            int got = Check.walkThere(x);
            SleepMoves y = Check.street("h2;wk3;o");
            y.risk(risk);
            y.seed(0);
            due("without a seed, risk " + risk, got, Check.walkThere(y));
        }
        due("the first draw from 0", (MORE >>> 33) % 100, 7);
        due("7 is not below 7", inFever(0, 7), 0);
        due("7 is below 8", inFever(0, 8), 1);
        SleepMoves x = Check.street("h2;wk3;o");
        x.risk(7);
        x.nights(1);
        due("7 is not below 7, without a seed", x.thing(0, 0), 1);
        x.undo();
        x.risk(8);
        x.nights(1);
        due("7 is below 8, without a seed", x.thing(0, 0), 0);
    }

    /** "(64 bits, going round); a draw of 100: (x shifted right by 33, without sign) modulo 100." */
    private static void drawsGoRound() {
        long[] seeds = {0, 1, -1, Long.MIN_VALUE, Long.MAX_VALUE, 99, 0x80000000L};
        for (long seed : seeds) {
            long x = seed;
            int fevers = 0;
            for (int i = 0; i < 20; i++) {
                x = x * FACTOR + MORE;
                fevers = 2 * fevers + ((x >>> 33) % 100 < 50 ? 1 : 0);
            }
            due("draws from " + seed, Check.walkFrom(seed), fevers);
        }
    }

    /** "each SLEEPER of KIND 3, when it is to walk" */
    private static void onlyKindThree() {
        SleepMoves x = Check.street("h8;wk0;wk1;wk2;wk4;wa7s0k3;o");
        x.risk(50);
        x.seed(6);
        x.nights(1);
        due("one draw a night: the last's", Check.sameDraws(x, 6 * FACTOR + MORE), true);
        SleepMoves y = Check.street("h8;wk3;wk3;wk3;wk3;wk3;o");
        y.risk(50);
        y.seed(6);
        y.nights(1);
        long draws = 6;
        for (int i = 0; i < 5; i++) {
            draws = draws * FACTOR + MORE;
        }
        due("five draws a night, though one thing is there", Check.sameDraws(y, draws), true);
    }
}
