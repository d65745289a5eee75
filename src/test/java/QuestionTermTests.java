/** The Terms of the document, sections 3 and 4, sentence by sentence: what is asked, and images. */
public final class QuestionTermTests {
    private static final int BILLION = 1000000000;
    private static final long FACTOR = 6364136223846793005L;
    private static final long MORE = 1442695040888963407L;

    private QuestionTermTests() {
    }

    public static void main(String[] args) {
        whatWillBe();
        whatWasSeen();
        whatIfs();
        sectionFour();
        Check.end();
    }

    private static void due(String call, long got, long want) {
        Check.due(call, got, want);
    }

    private static void due(String call, boolean got, boolean want) {
        Check.due(call, got, want);
    }

    // ==== 3. "All of these apart"

    private static void whatWillBe() {
        apart();
        rounds();
        met();
    }

    /** "All of these apart, from as it is, without FEVER, LOCKS as they are" */
    private static void apart() {
        SleepMoves x = Check.street("h4;wk3;o;oa1");
        x.risk(100);
        due("where without fever", x.where(0, 1), 1);
        due("carries without fever", x.carries(0, 1), 1);
        due("touched without fever", x.touched(0, 1), 1);
        due("empty without fever", x.empty(0, 1), 1);
        due("met without fever", x.met(0, 1, 1, 0), 1);
        due("round without fever", x.round(0), 1);
        due("quiet without fever", x.quiet(0, 1), 1);
        due("path without fever", x.path(0, 1, -1), 1);
        due("span without fever", x.span(0, 1), 0);
        due("fullest without fever", x.fullest(1, 2), 1);
        due("astray without fever", x.astray(1), 1);
        due("stay without fever", x.stay(0, 1), 1);
        due("homing without fever", x.homing(1, 0), -1);
        due("test without fever", x.test(0, 1, 1), 4);
        x.lock(1, true);
        due("where with locks", x.where(0, 1), 0);
        due("carries with locks", x.carries(0, 1), 0);
        due("touched with locks", x.touched(0, 1), 0);
        due("empty with locks", x.empty(0, 1), 0);
        due("met with locks", x.met(0, 1, 1, 0), 0);
        due("round with locks", x.round(0), 0);
        due("quiet with locks", x.quiet(0, 1), 0);
        due("path with locks", x.path(0, 1, -1), 0);
        due("span with locks", x.span(0, 1), 1);
        due("fullest with locks", x.fullest(1, 2), 0);
        due("astray with locks", x.astray(1), 0);
        due("homing with locks", x.homing(1, 0), 0);
        due("test with locks", x.test(0, 1, 1), 3);
        due("stay without these locks", x.stay(0, 1), 1);
        due("no draw was made", Check.sameDraws(withRisk(x, 50), 0), true);
    }

    private static SleepMoves withRisk(SleepMoves x, int risk) {
        x.risk(risk);
        return x;
    }

    /** ROUND: "the least number of NIGHTS (200 at most)", "that one (from 0)", "0 and more; without a MOON not looked at" */
    private static void rounds() {
        SleepMoves x = Check.street("h2;w;oa1");
        due("as now: from 0", x.round(0), 0);
        due("as now: one on", x.round(1), 1);
        for (int period = 2; period <= 9; period++) {
            for (int first = 0; first <= 9; first += 9) {
                SleepMoves y = Check.street("h2;w;oa1;mp" + period + "g" + first);
                due("the moon's period " + period + ", from", y.round(0), 0);
                due("the moon's period " + period + ", on", y.round(1), period);
                SleepMoves z = Check.street("h2;w;o;mp" + period + "g" + first);
                due("behind the first night, from", z.round(0), 1);
                due("behind the first night, on", z.round(1), period);
            }
        }
        due("all eight at the end of the street, and the moon", Check.street("h8;ws0" + Check.times(8, ";oa7") + ";mp9").round(1), 9);
        for (int thing = 0; thing < 8; thing++) {
            String one = Check.times(thing, ";oa7") + ";o" + Check.times(7 - thing, ";oa7");
            due("thing " + thing + " alone lies elsewhere then", Check.street("h8;w" + one + ";mp9").round(0), 1);
        }
        SleepMoves later = Check.street("h2;w;o;oa1");
        later.nights(1);
        due("from the night that is now, not from night 0", later.round(0), 0);
        due("behind 60 nights", lastMove(60).round(0), 0);
    }

    private static SleepMoves lastMove(int night) {
        return Check.ruled("h4;w;o", "y:n=" + (night - 1) + "?1;y:0");
    }

    /** MET: "the first (from 1)" */
    private static void met() {
        SleepMoves x = Check.street("h4;w;o;oa1");
        due("behind the first night", x.met(0, 1, 1, 1), 1);
        due("as together now, not counted", Check.street("h4;w;o;o").met(0, 1, 1, 1), -1);
        due("behind the last night", Check.ruled("h4;w;o;oa1", "y:n=59?1;y:0").met(0, 1, 60, 1), 60);
        due("not behind the last but one", Check.ruled("h4;w;o;oa1", "y:n=59?1;y:0").met(0, 1, 59, 1), -1);
        due("with the highest thing", Check.street("h4;w;oa1" + Check.times(6, ";oa2") + ";o").met(0, 7, 1, 1), 1);
    }

    // ==== 3. SEEN

    private static void whatWasSeen() {
        seen();
        fits();
        pairs();
        awake();
        tests();
    }

    /** "SEEN (20 at most): behind so many NIGHTS from now (1 .. 30) a THING lay in a HOUSE, or did not." */
    private static void seen() {
        SleepMoves x = Check.street("h4;w;wa3;o");
        Check.rule(x, 0, "y:n=29?1;y:0");
        due("see behind 30", x.see(0, 30, 1, true), 1);
        due("so it was", x.fits(1), 15);
        due("see behind 29", x.see(0, 29, 1, false), 2);
        due("so it was not", x.fits(1), 15);
        due("see behind 29, wrong", x.see(0, 29, 1, true), 3);
        due("that fits none", x.fits(1), 0);
        SleepMoves y = Check.street("h4;w;wa3;o");
        due("see behind 1", y.see(0, 1, 1, true), 1);
        due("so it was", y.fits(1), 15);
        for (int i = 2; i <= 19; i++) {
            due("see", y.see(0, i, 1, true), i);
        }
        due("the twentieth", y.see(0, 30, 0, true), 20);
        due("it counts", y.fits(1), 0);
        due("a twenty-first", y.see(0, 1, 1, true), -1);
        due("there are 20", y.count(7), 20);
    }

    /** "FITS of a SLEEPER: STEPS (0 .. HOUSES less 1, bits)" */
    private static void fits() {
        for (int h = 2; h <= 8; h++) {
            SleepMoves x = Check.street("h" + h + ";ws7;o");
            due("all steps of " + h, x.fits(0), (1 << h) - 1);
            x.see(0, 1, h - 1, true);
            due("the last step of " + h, x.fits(0), 1 << (h - 1));
            SleepMoves y = Check.street("h" + h + ";w;o");
            y.see(0, 1, 0, true);
            due("step 0 of " + h, y.fits(0), 1);
            y.see(0, 1, 0, false);
            due("no step of " + h, y.fits(0), 0);
        }
        SleepMoves z = Check.street("h4;w;w;w;w;wa1;oa1");
        z.see(0, 1, 3, true);
        due("the fifth sleeper", z.fits(4), 4);
        due("a sixth sleeper", z.fits(5), -1);
    }

    /** "PAIRS: of two SLEEPERS: how many pairs of STEPS so." */
    private static void pairs() {
        for (int h = 2; h <= 8; h++) {
            SleepMoves x = Check.street("h" + h + ";w;wa1;o;oa1");
            due("all pairs of " + h, x.pairs(0, 1), h * h);
            x.see(0, 1, h - 1, true);
            x.see(1, 1, 0, true);
            due("one pair of " + h, x.pairs(0, 1), h == 2 ? 0 : 1);
        }
        due("two houses: taken back again", pairsOfTwo(), 1);
    }

    private static int pairsOfTwo() {
        SleepMoves x = Check.street("h2;w;wa1;o;oa1");
        x.see(0, 1, 0, true);
        x.see(1, 1, 0, true);
        return x.pairs(0, 1);
    }

    /** "AWAKE: SLEEPERS (bits) none of whose STEPS fits." */
    private static void awake() {
        SleepMoves x = Check.street("h3;w;w;w;w;w;o");
        due("nobody", x.awake(), 0);
        x.see(0, 1, 0, true);
        due("all five", x.awake(), 31);
        SleepMoves y = Check.street("h3;wa1;wa1;wa1;wa1;w;o");
        y.see(0, 1, 2, true);
        due("all but the last", y.awake(), 15);
    }

    /** TEST: "10 times the THING and the HOUSE (of several the least)" */
    private static void tests() {
        SleepMoves x = Check.street("h8;wa7" + Check.times(7, ";oa7") + ";o");
        due("the lowest thing goes wherever told", x.test(0, 1, 0), 7);
        due("so many kinds", x.test(0, 1, 1), 8);
        SleepMoves y = Check.street("h8;wa7e1" + Check.times(8, ";oa7"));
        due("the highest thing, the last house", y.test(0, 1, 0), 77);
        due("so many kinds", y.test(0, 1, 1), 8);
        due("behind the last house comes the next thing", Check.street("h8;we1;o;o").test(0, 1, 0), 10);
        SleepMoves z = Check.street("h2;w;o");
        due("the first thing, the first house", z.test(0, 1, 0), 0);
        due("two kinds", z.test(0, 1, 1), 2);
        SleepMoves locked = Check.street("h2;w;o");
        locked.lock(0, true);
        due("of several the least", locked.test(0, 1, 0), 0);
        due("one kind at least", locked.test(0, 1, 1), 1);
        SleepMoves last = Check.ruled("h4;wa2;w;o", "y:n=59?1;y:0");
        due("behind 59 nights", last.test(1, 59, 1), 4);
        due("behind 60 nights", last.test(1, 60, 1), 3);
    }

    // ==== 3. ODDS, STAY, HOMING, by hand

    private static void whatIfs() {
        oddsCut();
        oddsMost();
        oddsLetters();
        stays();
        homings();
        homingLetters();
        images();
    }

    /** "of 10 to the 9 parts", "of each part RISK by 100, cut, has FEVER, the rest not (parts ... are not put together)" */
    private static void oddsCut() {
        SleepMoves x = Check.street("h2;wk3;o");
        due("risk 0", x.odds(0, 8, 1), BILLION);
        due("risk 0, stays", x.odds(0, 8, 0), 0);
        x.risk(1);
        long part = BILLION;
        for (int n = 1; n <= 8; n++) {
            part = part / 100;
            due("risk 1, " + n + " nights", x.odds(0, n, 0), part);
            due("risk 1, else", x.odds(0, n, 1), BILLION - part);
        }
        x.risk(99);
        part = BILLION;
        for (int n = 1; n <= 8; n++) {
            part = part * 99 / 100;
            due("risk 99, " + n + " nights", x.odds(0, n, 0), part);
            due("risk 99, else", x.odds(0, n, 1), BILLION - part);
        }
        x.risk(100);
        due("risk 100", x.odds(0, 8, 0), BILLION);
        due("risk 100, else", x.odds(0, 8, 1), 0);
        cutApart();
    }

    /** In a HOUSE far from all walks each part is cut by itself: the sum of all is still the whole. */
    private static void cutApart() {
        SleepMoves x = Check.street("h3;wk3;wa1k3;wa2k3;o");
        x.risk(33);
        for (int n = 1; n <= 4; n++) {
            due("all houses together, " + n, (long) x.odds(0, n, 0) + x.odds(0, n, 1) + x.odds(0, n, 2), BILLION);
        }
        SleepMoves y = Check.street("h3;wa2k3;wk3;o");
        y.risk(37);
        long fever = BILLION * 37L / 100;
        long twice = fever * 37 / 100;
        long then = (BILLION - fever) * 37 / 100;
        due("not put together", y.odds(0, 1, 0), twice + then);
        long into = 0;
        for (long part : new long[] {twice, then}) {
            long again = part * 37 / 100;
            into += again * 37 / 100 + (part - again) * 37 / 100;
        }
        due("not put together behind the second", y.odds(0, 2, 0), into);
        due("put together it would be one more", into < (twice + then) * 37 / 100 + 1, true);
    }

    /** "behind n NIGHTS (1 .. 8; n times SLEEPERS of KIND 3 is 12 at most)" */
    private static void oddsMost() {
        int[] most = {8, 8, 6, 4, 3, 2};
        for (int feverish = 0; feverish <= 5; feverish++) {
            SleepMoves x = Check.street("h4" + Check.times(feverish, ";wa3k3") + (feverish < 5 ? ";w" : "") + ";o;oa3");
            for (int n = 1; n <= 8; n++) {
                boolean taken = n <= most[feverish];
                due(n + " nights of " + feverish, x.odds(0, n, feverish < 5 ? 1 : 0), taken ? BILLION : -1);
            }
            due("0 nights of " + feverish, x.odds(0, 0, 1), -1);
            due("9 nights of " + feverish, x.odds(0, 9, 1), -1);
        }
        SleepMoves x = Check.ruled("h4;w;o", "y:n=7?1;y:0");
        due("seven nights", x.odds(0, 7, 1), 0);
        due("eight nights", x.odds(0, 8, 1), BILLION);
        SleepMoves y = Check.street("h2;wk3;wk3;wk3;o");
        y.risk(50);
        due("twelve walks, all in fever", y.odds(0, 4, 0), 244140);
        y.risk(10);
        due("nine walks in fever: a single part", y.odds(0, 3, 0), 1);
        due("ten and more: cut to none", y.odds(0, 4, 0), 0);
    }

    /** RULES with n, q and m are asked as it goes, in FEVER and without. */
    private static void oddsLetters() {
        SleepMoves x = Check.street("h8;wk3;o");
        Check.rule(x, 0, "y:n+1");
        x.risk(10);
        due("in the first night", x.odds(0, 3, 1), 900000000);
        due("in the second night", x.odds(0, 3, 2), 90000000);
        due("in the third night", x.odds(0, 3, 3), 9000000);
        due("in none", x.odds(0, 3, 0), 1000000);
        SleepMoves y = Check.street("h8;wk3;wa7k2;o;oa7");
        y.risk(10);
        due("who follows one in fever stays", y.odds(1, 1, 7), 100000000);
        due("else follows", y.odds(1, 1, 0), 900000000);
        SleepMoves z = Check.street("h8;wa5;wk3;o;mp2g1");
        Check.rule(z, 1, "y:m*2+1");
        z.risk(10);
        due("without a full moon", z.odds(0, 2, 1), 900000000);
        due("with a full moon", z.odds(0, 2, 3), 90000000);
    }

    /** "STAY ...: the fewest HOUSES LOCKED (these, no others) ... (bits; of several the least)" */
    private static void stays() {
        due("none", Check.street("h4;w;oa1").stay(0, 60), 0);
        due("its own, house 0", Check.street("h4;w;o").stay(0, 60), 1);
        due("its own, the last", Check.street("h8;wa7;wa7s2;oa7").stay(0, 1), 128);
        due("the least of two", Check.street("h4;wa3;oa3").stay(0, 1), 1);
        SleepMoves x = Check.street("h4;wa1s2;oa1");
        x.lock(1, true);
        x.lock(3, true);
        due("these, no others", x.stay(0, 1), 2);
        due("the locks are as they were", x.count(9), 10);
        SleepMoves y = Check.ruled("h4;w;o", "y:n=59?1;y:0");
        due("behind each of 59", y.stay(0, 59), 0);
        due("behind each of 60", y.stay(0, 60), 1);
        due("there and back in each night", Check.street("h4;w;wa1s3;o").stay(0, 60), 0);
        due("back behind the second night, away behind the first", swing().stay(0, 2), 1);
        SleepMoves moved = Check.street("h4;w;o");
        moved.nights(1);
        due("its house of now, not the first", moved.stay(0, 9), 0);
    }

    /** "HOMING (at most 4 THINGS, 6 HOUSES): the fewest THINGS that have to be put elsewhere now" */
    private static void homings() {
        for (int o = 1; o <= 8; o++) {
            SleepMoves x = Check.street("h2;ws0" + Check.times(o, ";oa1"));
            due(o + " things", x.homing(1, 0), o <= 4 ? 0 : -1000000);
            due(o + " things, places", x.homing(1, 1), o <= 4 ? 1111 / (int) Math.pow(10, 4 - o) : -1000000);
        }
        for (int h = 2; h <= 8; h++) {
            SleepMoves x = Check.street("h" + h + ";w;oa" + (h - 1));
            due(h + " houses", x.homing(1, 0), h <= 6 ? 0 : -1000000);
        }
        SleepMoves most = Check.street("h6;ws0;oa5;oa5;oa5;oa5");
        for (int thing = 0; thing < 4; thing++) {
            due("put", most.put(thing, 0), true);
            due("put back", most.homing(60, 0), thing + 1);
            due("places", most.homing(60, 1), 5555);
        }
        SleepMoves least = Check.street("h6;ws0;o;o;o;o");
        least.put(0, 5);
        due("the lowest places", least.homing(1, 1), 0);
        SleepMoves several = Check.street("h4;wa1k4;oa1");
        several.put(0, 3);
        due("one has to be put", several.homing(1, 0), 1);
        due("of several the least", several.homing(1, 1), 1);
        SleepMoves other = Check.street("h4;w;wa2k4s3;oa2");
        other.put(0, 3);
        due("of several the least, by two", other.homing(1, 1), 0);
        due("as few as can be, not the least places", fewest().homing(1, 1), 2);
        due("none has to be put", fewest().homing(1, 0), 0);
        due("it can't be", Check.street("h6;w;o;o;o;o").homing(60, 0), -1);
        due("it can't be: places", Check.street("h6;w;o;o;o;o").homing(60, 1), -1);
    }

    /** Now it lies in house 2, from which it comes home to house 1; put into house 1 it would stay there, too. */
    private static SleepMoves fewest() {
        SleepMoves x = Check.street("h4;wa1k4;oa1");
        x.put(0, 2);
        return x;
    }

    /** NIGHTS go on in HOMING, from the NIGHT that is now. */
    private static void homingLetters() {
        SleepMoves x = Check.street("h4;w;o");
        Check.rule(x, 0, "y:n=3?1;y:0");
        due("not in three nights", x.homing(3, 0), 0);
        due("in the fourth night it goes", x.homing(4, 0), -1);
        x.nights(2);
        due("from night 2: one", x.homing(1, 0), 0);
        due("from night 2: two", x.homing(2, 0), -1);
        x.nights(1);
        due("from night 3", x.homing(1, 0), -1);
        x.nights(1);
        due("from night 4", x.homing(60, 0), 1);
        due("put home", x.homing(60, 1), 0);
        SleepMoves y = Check.street("h4;wk1;oa3;m");
        y.put(0, 0);
        due("by a full moon", y.homing(1, 0), 0);
        y.nights(1);
        y.put(0, 0);
        due("not by another", y.homing(1, 1), 3);
        SleepMoves twice = Check.street("h4;w;oa1");
        twice.put(0, 0);
        Check.rule(twice, 0, "y:n=1?1;y:0");
        due("in the second night", twice.homing(2, 0), 0);
        due("not in the first", twice.homing(1, 0), 1);
    }

    /** "An IMAGE keeps where THINGS lie, LOCKS, the NIGHT, draws; BACK: they are so again (no NIGHT can be UNDONE then)." */
    private static void images() {
        SleepMoves x = Check.street("h4;wk3;o;oa3");
        x.risk(50);
        x.seed(8);
        x.nights(3);
        x.lock(3, true);
        x.put(0, 2);
        due("image", x.image(), 3);
        due("nights can still be undone", x.count(8), 3);
        x.seed(99);
        x.lock(3, false);
        x.lock(0, true);
        x.put(0, 1);
        x.put(1, 0);
        x.nights(60);
        x.risk(60);
        due("back", x.back(), 3);
        due("things", Check.placesOf(x), 2 * 8 + 3);
        due("locks", x.count(9), 8);
        due("the night", x.count(5), 3);
        due("none can be undone", x.count(8), 0);
        due("none is undone", x.undo(), -1);
        long draws = 8;
        for (int i = 0; i < 3; i++) {
            draws = draws * FACTOR + MORE;
        }
        x.risk(50);
        due("draws", Check.sameDraws(x, draws), true);
    }

    // ==== 4.

    private static void sectionFour() {
        quiet();
        guests();
        paths();
        spans();
        fullest();
        astray();
    }

    /** "QUIET: if a SLEEPER stays in bed for n NIGHTS (STRIDE 0, takes nothing)", "CULPRIT ... (of several the lowest)" */
    private static void quiet() {
        SleepMoves x = Check.street("h8;wa7s3;wk2;o;oa7");
        due("who follows has the stride 0, too", x.quiet(0, 1), 2);
        due("the first one again", x.quiet(0, 60), 2);
        SleepMoves y = Check.street("h8;wa7s3;wk2;wa1k2;o;oa1;oa7");
        due("a follower in bed: stride 0 for the next one", y.quiet(1, 1), 2);
        due("the culprit", y.culprit(1), 0);
        due("returning in bed", Check.street("h8;wk4;oa1").quiet(0, 1), 1);
        due("nothing else for it", Check.street("h8;w;oa1").quiet(0, 1), 0);
        due("of several the lowest", Check.street("h8;w;wa1;wa2;o;oa1;oa2").culprit(1), 0);
        due("the last one", Check.street("h8;wa5;wa5;wa5;wa5;w;o").culprit(1), 4);
        due("none elsewhere: the lowest", Check.street("h8;wa5;wa5;wa5;wa5;wa5;o").culprit(60), 0);
        SleepMoves most = Check.street("h8;ws1" + Check.times(8, ";o"));
        due("all eight", most.quiet(0, 60), 8);
        due("seven", most.quiet(0, 7), 7);
    }

    /** "GUEST: one SLEEPER more (the last, plain, the lowest THING) with a HOME and a STEP (0 .. 7)" */
    private static void guests() {
        SleepMoves x = Check.street("h8;wa7s0;o;o;o");
        for (int step = 0; step <= 7; step++) {
            due("carries with step " + step, x.guest(0, step, 60, 1), step == 0 ? 0 : 3);
            due("elsewhere with step " + step, x.guest(0, step, 2, 0), step == 0 ? 0 : 2);
        }
        due("step 8", x.guest(0, 8, 1, 0), -1);
        due("step -1", x.guest(0, -1, 1, 0), -1);
        due("home 7", x.guest(7, 1, 1, 0), 0);
        due("home 8", x.guest(8, 1, 1, 0), -1);
        due("home -1", x.guest(-1, 1, 1, 0), -1);
        SleepMoves y = Check.street("h4;wk4e1;oa1;o");
        due("the last: takes what came home", y.guest(0, 2, 1, 1), 1);
        due("the lowest, not what was there", y.guest(0, 2, 1, 0), 1);
        SleepMoves moon = Check.street("h4;wa3s0;o;m");
        due("plain: not turned", guestLands(moon, 1), 1);
        SleepMoves five = Check.street("h4;w;wa3;wa3;wa3;wa3;o");
        due("a sixth sleeper", five.guest(1, 1, 1, 1), 1);
        SleepMoves gone = Check.street("h4;ws0;o;oa1");
        due("nothing there", gone.guest(2, 1, 60, 1), 0);
        gone.lock(0, true);
        due("locked", gone.guest(0, 1, 60, 1), 0);
        due("into a locked house", gone.guest(1, 3, 60, 1), 0);
        due("the sleepers are as they were", gone.count(1), 1);
    }

    /** 1: with that STEP it comes where another HOUSE is locked, so it was not turned. */
    private static int guestLands(SleepMoves x, int step) {
        x.lock(4 - step, true);
        return x.guest(0, step, 1, 1);
    }

    /** "PATH ...: the HOUSES into which it comes, ... (each NIGHT's last, if it is another one than ahead of that NIGHT)" */
    private static void paths() {
        SleepMoves x = Check.street("h8;w;wa1;wa2;wa7;o");
        due("each night's last", x.path(0, 1, 0), 3);
        due("one", x.path(0, 60, -1), 1);
        due("there and back in a night", Check.street("h4;w;wa1s3;o").path(0, 60, -1), 0);
        SleepMoves swing = swing();
        due("sixty comings", swing.path(0, 60, -1), 60);
        due("the first of sixty", swing.path(0, 60, 0), 1);
        due("the second of sixty", swing.path(0, 60, 1), 0);
        due("the last of sixty", swing.path(0, 60, 59), 0);
        due("a sixty-first", swing.path(0, 60, 60), -1);
        due("of 59 the last", swing.path(0, 59, 58), 1);
        due("of 59 a sixtieth", swing.path(0, 59, 59), -1);
        due("-2", swing.path(0, 60, -2), -1);
    }

    /** The thing comes into the other HOUSE each NIGHT: 1, 0, 1, 0 .. */
    private static SleepMoves swing() {
        SleepMoves x = Check.street("h2;w;wa1;o");
        Check.rule(x, 0, "y:n-n/2*2=0?1;y:0");
        Check.rule(x, 1, "y:n-n/2*2=1?1;y:0");
        return x;
    }

    /** "SPAN ...: the most of n NIGHTS one behind the other behind which it lies where it lay ahead of them (0 at least)." */
    private static void spans() {
        due("0 at least", Check.street("h4;w;o").span(0, 1), 0);
        due("all of one", Check.street("h4;w;oa1").span(0, 1), 1);
        due("all of sixty", Check.street("h4;w;oa1").span(0, 60), 60);
        SleepMoves last = Check.ruled("h4;w;o", "y:n=59?1;y:0");
        due("all of 59", last.span(0, 59), 59);
        due("all of 60 but the last", last.span(0, 60), 59);
        SleepMoves first = Check.ruled("h4;w;o", "y:n=0?1;y:0");
        due("all of 60 but the first", first.span(0, 60), 59);
        SleepMoves between = Check.ruled("h4;w;o", "y:n=30?1;y:0");
        due("half and half", between.span(0, 60), 30);
        due("the first half is more", between.span(0, 59), 30);
        due("away behind each night, though back behind two", swing().span(0, 60), 0);
        due("there and back in each night", Check.street("h4;w;wa1s3;o").span(0, 60), 60);
    }

    /** "FULLEST ... (of several the first, from 1): how many; the NIGHT; the HOUSE (of several the lowest)." */
    private static void fullest() {
        SleepMoves x = Check.street("h4;w;o;oa1;oa2;oa3");
        due("two behind the first", x.fullest(60, 0), 2);
        due("the first", x.fullest(60, 1), 1);
        due("the house", x.fullest(60, 2), 1);
        SleepMoves one = Check.street("h4;w;oa3");
        due("one at least", one.fullest(1, 0), 1);
        due("behind the first", one.fullest(1, 1), 1);
        due("the last house", one.fullest(1, 2), 3);
        SleepMoves several = Check.street("h8;wa7s0;oa6;oa5;oa6;oa5");
        due("of several the lowest", several.fullest(60, 2), 5);
        due("of several nights the first", several.fullest(60, 1), 1);
        SleepMoves last = Check.ruled("h4;w;o;oa1", "y:n=59?1;y:0");
        due("behind 59", last.fullest(59, 0), 1);
        due("behind 60", last.fullest(60, 0), 2);
        due("the sixtieth", last.fullest(60, 1), 60);
        due("house 1", last.fullest(60, 2), 1);
        due("all eight", Check.street("h4;ws0" + Check.times(8, ";oa3")).fullest(1, 0), 8);
    }

    /** "ASTRAY: THINGS (bits) that lie elsewhere than they were first told, behind n NIGHTS (0: now)." */
    private static void astray() {
        SleepMoves x = Check.street("h4;w" + Check.times(8, ";o"));
        due("now none", x.astray(0), 0);
        due("behind one", x.astray(1), 1);
        due("behind seven", x.astray(7), 127);
        due("behind eight", x.astray(8), 255);
        due("behind sixty", x.astray(60), 255);
        x.nights(8);
        due("now all", x.astray(0), 255);
        x.put(7, 0);
        due("but the last", x.astray(0), 127);
        SleepMoves last = Check.ruled("h4;w;o", "y:n=59?1;y:0");
        due("behind 59", last.astray(59), 0);
        due("behind 60", last.astray(60), 1);
    }
}
