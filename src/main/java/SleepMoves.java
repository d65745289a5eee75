import java.util.ArrayList;
import java.util.NoSuchElementException;

/** What they moved in their sleep: ../shared/DOC.md tells what each call promises. */
public final class SleepMoves {
    public static final int NONE = -1;
    public static final int HIDDEN = -1000000;

    private static final int NO_SUCH_SORT = -2;
    private static final int STREET_SORT = 0;
    private static final int RULE_SORT = 1;

    private static final int TAPE_MOST = 160;
    private static final int HOUSES_LEAST = 2;
    private static final int HOUSES_MOST = 8;
    private static final int SLEEPERS_MOST = 5;
    private static final int THINGS_MOST = 8;
    private static final int RULES_MOST = 5;
    private static final int STEP_MOST = 7;
    private static final int NEST_MOST = 6;
    private static final int NUMBER_MOST = 1000000;
    private static final int RISK_MOST = 100;
    private static final int NIGHTS_MOST = 60;
    private static final int ROUND_MOST = 200;
    private static final int SEEN_MOST = 20;
    private static final int SEEN_NIGHTS_MOST = 30;
    private static final int ODDS_NIGHTS_MOST = 8;
    private static final int FEVERS_MOST = 12;
    private static final int PARTS = 1000000000;
    private static final int HOMING_THINGS_MOST = 4;
    private static final int HOMING_HOUSES_MOST = 6;
    private static final int HOMING_STARTS_MOST = 1296;

    private static final int KIND_MOON = 1;
    private static final int KIND_FOLLOWING = 2;
    private static final int KIND_FEVERISH = 3;
    private static final int KIND_RETURNING = 4;

    private final Tape tape = new Tape();
    private final StreetReader streetReader = new StreetReader(tape);
    private final RuleReader ruleReader = new RuleReader(tape);
    private final ArrayList<Rule> rules = new ArrayList<>();
    private final Street street = new Street();
    private final Stand now = new Stand();
    private final Stand kept = new Stand();
    private boolean hasImage = false;
    private final Past past = new Past();
    private final Seen seen = new Seen();
    private final Dream dream = new Dream(street, rules);
    private int risk = 0;
    private final Row roundKeys = new Row(ROUND_MOST + 1);
    private final Row landing = new Row(HOMING_STARTS_MOST);
    private final Row onward = new Row(HOMING_STARTS_MOST);
    private final Row onwardNight = new Row(HOMING_STARTS_MOST);

    public SleepMoves() {
    }

    // ---- the TAPE and its TEXTS

    public int feed(int a, int b, int c, int d, int e) {
        int more = Tape.bytesIn(a) + Tape.bytesIn(b) + Tape.bytesIn(c) + Tape.bytesIn(d) + Tape.bytesIn(e);
        if (tape.length + more > TAPE_MOST) {
            return NONE;
        }
        tape.add(a);
        tape.add(b);
        tape.add(c);
        tape.add(d);
        tape.add(e);
        return tape.length;
    }

    public boolean end(int n) {
        if (!within(n, 0, tape.length)) {
            return false;
        }
        tape.length = n;
        return true;
    }

    public int fault(int sort) {
        if (sort == STREET_SORT) {
            return streetReader.read();
        }
        return sort == RULE_SORT ? ruleReader.read() : NO_SUCH_SORT;
    }

    public int text(int sort) {
        if (sort == STREET_SORT && streetReader.read() == NONE) {
            tape.length = 0;
            moveInto(streetReader.draft);
            return street.sleepers;
        }
        if (sort == RULE_SORT && rules.size() < RULES_MOST && ruleReader.read() == NONE) {
            tape.length = 0;
            rules.add(ruleReader.made());
            return rules.size() - 1;
        }
        return NONE;
    }

    private void moveInto(Street told) {
        street.copy(told);
        now.places = street.first;
        now.night = 0;
        now.locks = 0;
        hasImage = false;
        past.forget();
        seen.forget();
    }

    // ---- what there is

    public int sleeper(int sleeper, int what) throws NoSuchElementException {
        if (!street.hasSleeper(sleeper)) {
            throw new NoSuchElementException("no such sleeper");
        }
        switch (what) {
            case 0: return street.home.at(sleeper);
            case 1: return street.step.at(sleeper);
            case 2: return street.kind.at(sleeper);
            case 3: return street.highest.at(sleeper);
            case 4: return street.rule.at(sleeper);
            default: throw new NoSuchElementException("no such what");
        }
    }

    public int thing(int thing, int what) {
        if (!street.hasThing(thing) || !within(what, 0, 1)) {
            return NONE;
        }
        return placeIn(what == 0 ? now.places : street.first, thing);
    }

    public int house(int house, int what) {
        if (!street.hasHouse(house) || !within(what, 0, 1)) {
            return NONE;
        }
        return what == 0 ? street.thingsIn(now.places, house) : bitOf(now.locks, house);
    }

    public int moon(int night) {
        if (!street.isTold() || night < 0) {
            return NONE;
        }
        return street.isFull(night) ? 1 : 0;
    }

    public int count(int what) {
        switch (what) {
            case 0: return street.houses;
            case 1: return street.sleepers;
            case 2: return street.things;
            case 3: return rules.size();
            case 4: return tape.length;
            case 5: return now.night;
            case 6: return street.period;
            case 7: return seen.count;
            case 8: return past.count;
            case 9: return now.locks;
            default: return HIDDEN;
        }
    }

    // ---- by hand

    public boolean rule(int sleeper, int rule) {
        if (!street.hasSleeper(sleeper) || !within(rule, NONE, rules.size() - 1)) {
            return false;
        }
        street.rule.set(sleeper, rule);
        dream.forgetWorths();
        return true;
    }

    public boolean risk(int v) {
        if (!within(v, 0, RISK_MOST)) {
            return false;
        }
        risk = v;
        return true;
    }

    public boolean seed(long v) {
        now.draws = v;
        return true;
    }

    public boolean put(int thing, int house) {
        if (!street.hasThing(thing) || !street.hasHouse(house) || placeIn(now.places, thing) == house) {
            return false;
        }
        now.places = placed(now.places, thing, house);
        return true;
    }

    public boolean lock(int house, boolean is) {
        if (!street.hasHouse(house) || (bitOf(now.locks, house) == 1) == is) {
            return false;
        }
        now.locks ^= 1 << house;
        return true;
    }

    // ---- NIGHTS that go by

    public int nights(int n) {
        if (!street.isTold() || !within(n, 1, NIGHTS_MOST)) {
            return NONE;
        }
        for (int i = 0; i < n; i++) {
            past.keep(now);
            dream.begin(now);
            dream.risk = risk;
            dream.goOneNight();
            now.copy(dream);
        }
        return now.night;
    }

    public int undo() {
        return past.takeBack(now) ? now.night : NONE;
    }

    public int image() {
        if (!street.isTold()) {
            return NONE;
        }
        kept.copy(now);
        hasImage = true;
        return now.night;
    }

    public int back() {
        if (!hasImage) {
            return NONE;
        }
        now.copy(kept);
        past.forget();
        return now.night;
    }

    // ---- what would be: apart, from as it is, without FEVER

    public int where(int thing, int n) {
        if (!street.hasThing(thing) || !within(n, 1, NIGHTS_MOST)) {
            return NONE;
        }
        dreamOf(n);
        return placeIn(dream.places, thing);
    }

    public int carries(int sleeper, int n) {
        if (!street.hasSleeper(sleeper) || !within(n, 1, NIGHTS_MOST)) {
            return NONE;
        }
        dreamOf(n);
        return dream.carried.at(sleeper);
    }

    public int touched(int thing, int n) {
        if (!street.hasThing(thing) || !within(n, 1, NIGHTS_MOST)) {
            return NONE;
        }
        dreamOf(n);
        return dream.carriers.at(thing);
    }

    public int empty(int house, int n) {
        if (!street.hasHouse(house) || !within(n, 1, NIGHTS_MOST)) {
            return NONE;
        }
        int times = 0;
        dream.begin(now);
        for (int i = 0; i < n; i++) {
            dream.goOneNight();
            if (street.thingsIn(dream.places, house) == 0) {
                times++;
            }
        }
        return times;
    }

    public int met(int one, int other, int n, int what) {
        if (!street.hasThing(one) || !street.hasThing(other) || one == other) {
            return HIDDEN;
        }
        if (!within(n, 1, NIGHTS_MOST) || !within(what, 0, 1)) {
            return HIDDEN;
        }
        int times = 0;
        int first = NONE;
        dream.begin(now);
        for (int i = 1; i <= n; i++) {
            dream.goOneNight();
            if (placeIn(dream.places, one) == placeIn(dream.places, other)) {
                times++;
                first = first == NONE ? i : first;
            }
        }
        return what == 0 ? times : first;
    }

    public int round(int what) {
        if (!street.isTold() || !within(what, 0, 1)) {
            return NONE;
        }
        dream.begin(now);
        roundKeys.set(0, dream.roundKey());
        for (int i = 1; i <= ROUND_MOST; i++) {
            dream.goOneNight();
            roundKeys.set(i, dream.roundKey());
            int since = firstOf(roundKeys, dream.roundKey());
            if (since < i) {
                return what == 0 ? since : i - since;
            }
        }
        return NONE;
    }

    public int path(int thing, int n, int i) {
        if (!street.hasThing(thing) || !within(n, 1, NIGHTS_MOST)) {
            return HIDDEN;
        }
        int comings = 0;
        dream.begin(now);
        for (int k = 0; k < n; k++) {
            int ahead = placeIn(dream.places, thing);
            dream.goOneNight();
            int behind = placeIn(dream.places, thing);
            if (behind != ahead && comings == i) {
                return behind;
            }
            if (behind != ahead) {
                comings++;
            }
        }
        return i == NONE ? comings : NONE;
    }

    public int span(int thing, int n) {
        if (!street.hasThing(thing) || !within(n, 1, NIGHTS_MOST)) {
            return NONE;
        }
        int most = 0;
        int still = 0;
        dream.begin(now);
        for (int i = 0; i < n; i++) {
            int ahead = placeIn(dream.places, thing);
            dream.goOneNight();
            still = placeIn(dream.places, thing) == ahead ? still + 1 : 0;
            most = Math.max(most, still);
        }
        return most;
    }

    public int fullest(int n, int what) {
        if (!street.isTold() || !within(n, 1, NIGHTS_MOST) || !within(what, 0, 2)) {
            return NONE;
        }
        int most = 0;
        int night = NONE;
        int house = NONE;
        dream.begin(now);
        for (int i = 1; i <= n; i++) {
            dream.goOneNight();
            int crowded = street.fullestHouse(dream.places);
            int things = Integer.bitCount(street.thingsIn(dream.places, crowded));
            if (things > most) {
                most = things;
                night = i;
                house = crowded;
            }
        }
        if (what == 0) {
            return most;
        }
        return what == 1 ? night : house;
    }

    public int astray(int n) {
        if (!street.isTold() || !within(n, 0, NIGHTS_MOST)) {
            return NONE;
        }
        dreamOf(n);
        return street.elsewhere(dream.places, street.first);
    }

    // ---- what would fit the mornings that were SEEN

    public int see(int thing, int n, int house, boolean is) {
        if (!street.hasThing(thing) || !street.hasHouse(house)) {
            return NONE;
        }
        if (!within(n, 1, SEEN_NIGHTS_MOST) || seen.count >= SEEN_MOST) {
            return NONE;
        }
        seen.add(thing, n, house, is);
        return seen.count;
    }

    public int fits(int sleeper) {
        return street.hasSleeper(sleeper) ? fittingSteps(sleeper) : NONE;
    }

    public int pairs(int one, int other) {
        if (!street.hasSleeper(one) || !street.hasSleeper(other) || one == other) {
            return NONE;
        }
        int fitting = 0;
        for (int step = 0; step < street.houses; step++) {
            for (int otherStep = 0; otherStep < street.houses; otherStep++) {
                dream.begin(now);
                dream.forcedStep.set(one, step);
                dream.forcedStep.set(other, otherStep);
                if (dreamIsAsSeen()) {
                    fitting++;
                }
            }
        }
        return fitting;
    }

    public int awake() {
        if (!street.isTold()) {
            return NONE;
        }
        int bits = 0;
        for (int w = 0; w < street.sleepers; w++) {
            if (fittingSteps(w) == 0) {
                bits |= 1 << w;
            }
        }
        return bits;
    }

    public int test(int sleeper, int n, int what) {
        if (!street.hasSleeper(sleeper) || !within(n, 1, NIGHTS_MOST) || !within(what, 0, 1)) {
            return NONE;
        }
        int most = 0;
        int best = NONE;
        for (int thing = 0; thing < street.things; thing++) {
            for (int house = 0; house < street.houses; house++) {
                int kinds = kindsOfPlaces(sleeper, n, thing, house);
                if (kinds > most) {
                    most = kinds;
                    best = 10 * thing + house;
                }
            }
        }
        return what == 0 ? best : most;
    }

    // ---- what would be, if something were otherwise

    public int odds(int thing, int n, int house) {
        if (!street.hasThing(thing) || !street.hasHouse(house) || !within(n, 1, ODDS_NIGHTS_MOST)) {
            return NONE;
        }
        if (n * street.feverish() > FEVERS_MOST) {
            return NONE;
        }
        dream.begin(now);
        return (int) dream.partsInto(thing, house, n, risk);
    }

    public int stay(int thing, int n) {
        if (!street.hasThing(thing) || !within(n, 1, NIGHTS_MOST)) {
            return NONE;
        }
        if (staysBehind(thing, n, 0)) {
            return 0;
        }
        // One HOUSE is always enough: its own, LOCKED, lets nothing out. So no two need be looked at.
        for (int house = 0; house < street.houses; house++) {
            if (staysBehind(thing, n, 1 << house)) {
                return 1 << house;
            }
        }
        return NONE;
    }

    public int homing(int n, int what) {
        if (!street.isTold() || !within(what, 0, 1)) {
            return HIDDEN;
        }
        if (street.things > HOMING_THINGS_MOST || street.houses > HOMING_HOUSES_MOST) {
            return HIDDEN;
        }
        if (!within(n, 1, NIGHTS_MOST)) {
            return NONE;
        }
        landAllStarts(n);
        int goal = street.startOf(street.first);
        int fewest = NONE;
        int best = NONE;
        for (int start = 0; start < street.starts(); start++) {
            int places = street.placesOf(start);
            int moved = Integer.bitCount(street.elsewhere(places, now.places));
            if (landing.at(start) == goal && (fewest == NONE || moved < fewest)) {
                fewest = moved;
                best = street.digitsOf(places);
            }
        }
        return what == 0 ? fewest : best;
    }

    public int quiet(int sleeper, int n) {
        if (!street.hasSleeper(sleeper) || !within(n, 1, NIGHTS_MOST)) {
            return NONE;
        }
        dreamOf(n);
        return changedWithout(sleeper, n, dream.places);
    }

    public int culprit(int n) {
        if (!street.isTold() || !within(n, 1, NIGHTS_MOST)) {
            return NONE;
        }
        dreamOf(n);
        int withAll = dream.places;
        int most = NONE;
        int culprit = NONE;
        for (int w = 0; w < street.sleepers; w++) {
            int changed = changedWithout(w, n, withAll);
            if (changed > most) {
                most = changed;
                culprit = w;
            }
        }
        return culprit;
    }

    public int guest(int home, int step, int n, int what) {
        if (!street.hasHouse(home) || !within(step, 0, STEP_MOST)) {
            return NONE;
        }
        if (!within(n, 1, NIGHTS_MOST) || !within(what, 0, 1)) {
            return NONE;
        }
        dreamOf(n);
        int without = dream.places;
        dream.begin(now);
        dream.guestHome = home;
        dream.guestStep = step;
        dream.goOn(n);
        if (what == 1) {
            return dream.carried.at(street.sleepers);
        }
        return Integer.bitCount(street.elsewhere(dream.places, without));
    }

    // ---- parts of these answers

    private void dreamOf(int n) {
        dream.begin(now);
        dream.goOn(n);
    }

    private int fittingSteps(int sleeper) {
        int bits = 0;
        for (int step = 0; step < street.houses; step++) {
            dream.begin(now);
            dream.forcedStep.set(sleeper, step);
            if (dreamIsAsSeen()) {
                bits |= 1 << step;
            }
        }
        return bits;
    }

    private boolean dreamIsAsSeen() {
        for (int i = 1; i <= seen.latest; i++) {
            dream.goOneNight();
            if (!seen.allows(i, dream.places)) {
                return false;
            }
        }
        return true;
    }

    private int kindsOfPlaces(int sleeper, int n, int thing, int house) {
        int bits = 0;
        for (int step = 0; step < street.houses; step++) {
            dream.begin(now);
            dream.places = placed(dream.places, thing, house);
            dream.forcedStep.set(sleeper, step);
            dream.goOn(n);
            bits |= 1 << placeIn(dream.places, thing);
        }
        return Integer.bitCount(bits);
    }

    private boolean staysBehind(int thing, int n, int locks) {
        int home = placeIn(now.places, thing);
        dream.begin(now);
        dream.locks = locks;
        for (int i = 0; i < n; i++) {
            dream.goOneNight();
            if (placeIn(dream.places, thing) != home) {
                return false;
            }
        }
        return true;
    }

    // Starts that have come to the same places are walked on together: each night then asks each place once.
    private void landAllStarts(int n) {
        int starts = street.starts();
        for (int start = 0; start < starts; start++) {
            landing.set(start, start);
            onwardNight.set(start, NONE);
        }
        dream.begin(now);
        for (int i = 0; i < n; i++) {
            int night = now.night + i;
            for (int start = 0; start < starts; start++) {
                int from = landing.at(start);
                if (onwardNight.at(from) != night) {
                    dream.places = street.placesOf(from);
                    dream.night = night;
                    dream.goOneNight();
                    onward.set(from, street.startOf(dream.places));
                    onwardNight.set(from, night);
                }
                landing.set(start, onward.at(from));
            }
        }
    }

    private int changedWithout(int sleeper, int n, int withAll) {
        dream.begin(now);
        dream.inBed = sleeper;
        dream.goOn(n);
        return Integer.bitCount(street.elsewhere(dream.places, withAll));
    }

    private static int firstOf(Row row, int number) {
        for (int i = 0; i < row.length(); i++) {
            if (row.at(i) == number) {
                return i;
            }
        }
        return row.length();
    }

    private static boolean within(int number, int least, int most) {
        return number >= least && number <= most;
    }

    private static int bitOf(int bits, int i) {
        return (bits >>> i) & 1;
    }

    // All places are one number, three bits a THING: so they are kept and compared without a row.
    private static int placeIn(int places, int thing) {
        return (places >>> (3 * thing)) & 7;
    }

    private static int placed(int places, int thing, int house) {
        return (places & ~(7 << (3 * thing))) | (house << (3 * thing));
    }

    /** A row of numbers; beside its ends 0 is read and nothing is written, so that no index can be wrong. */
    private static final class Row {
        private final int[] cells;

        Row(int length) {
            cells = new int[Math.max(length, 0)];
        }

        int length() {
            return cells.length;
        }

        int at(int i) {
            return i >= 0 && i < cells.length ? cells[i] : 0;
        }

        void set(int i, int number) {
            if (i >= 0 && i < cells.length) {
                cells[i] = number;
            }
        }

        void fill(int number) {
            for (int i = 0; i < cells.length; i++) {
                cells[i] = number;
            }
        }

        void copy(Row other) {
            for (int i = 0; i < cells.length; i++) {
                cells[i] = other.at(i);
            }
        }
    }

    /** The bytes that were fed and not yet read. */
    private static final class Tape {
        private final Row bytes = new Row(TAPE_MOST);
        int length = 0;

        static int bytesIn(int number) {
            int count = 0;
            for (int shift = 24; shift >= 0; shift -= 8) {
                if (((number >>> shift) & 255) != 0) {
                    count++;
                }
            }
            return count;
        }

        void add(int number) {
            for (int shift = 24; shift >= 0; shift -= 8) {
                int sign = (number >>> shift) & 255;
                if (sign != 0) {
                    bytes.set(length, sign);
                    length++;
                }
            }
        }
    }

    /** Goes along the TAPE; it never goes behind a sign that does not fit, so where it stops short is the FAULT. */
    private abstract static class Reader {
        private final Tape tape;
        private int at = 0;

        Reader(Tape tape) {
            this.tape = tape;
        }

        final void begin() {
            at = 0;
        }

        final int faultHere() {
            return at;
        }

        final int signHere() {
            return at < tape.length ? tape.bytes.at(at) : NONE;
        }

        final int nextSign() {
            while (at < tape.length && tape.bytes.at(at) == ' ') {
                at++;
            }
            return at < tape.length ? tape.bytes.at(at) : NONE;
        }

        final void goOn() {
            at++;
        }

        final boolean take(int sign) {
            if (nextSign() != sign) {
                return false;
            }
            at++;
            return true;
        }
    }

    /** Reads a STREET into its draft. */
    private static final class StreetReader extends Reader {
        private static final String SLEEPER_LETTERS = "aske";
        private static final String THING_LETTERS = "a";
        private static final String MOON_LETTERS = "pg";

        final Street draft = new Street();
        private final Row items = new Row(SLEEPER_LETTERS.length());
        private int digit = 0;

        StreetReader(Tape tape) {
            super(tape);
        }

        int read() {
            begin();
            draft.clear();
            if (!take('h') || !takeDigit(HOUSES_LEAST, HOUSES_MOST)) {
                return faultHere();
            }
            draft.houses = digit;
            for (int i = 0; i < TAPE_MOST && take(';'); i++) {
                if (!readClause()) {
                    return faultHere();
                }
            }
            boolean isWhole = nextSign() == NONE && draft.sleepers > 0 && draft.things > 0;
            return isWhole ? NONE : faultHere();
        }

        private boolean readClause() {
            int sign = nextSign();
            if (!canCome(sign)) {
                return false;
            }
            goOn();
            items.fill(0);
            switch (sign) {
                case 'w':
                    items.set(SLEEPER_LETTERS.indexOf('s'), 1);
                    return readItems(SLEEPER_LETTERS) && draft.addSleeper(items);
                case 'o':
                    return readItems(THING_LETTERS) && draft.addThing(items);
                default:
                    items.set(MOON_LETTERS.indexOf('p'), 7);
                    return readItems(MOON_LETTERS) && draft.addMoon(items);
            }
        }

        private boolean canCome(int sign) {
            switch (sign) {
                case 'w': return draft.sleepers < SLEEPERS_MOST;
                case 'o': return draft.things < THINGS_MOST;
                case 'm': return draft.period == 0;
                default: return false;
            }
        }

        // A letter that is none of these, or was there, ends the ITEMS: what looks for a ; behind them finds it.
        private boolean readItems(String letters) {
            int told = 0;
            for (int i = 0; i < letters.length(); i++) {
                int sign = nextSign();
                int which = sign == NONE ? NONE : letters.indexOf((char) sign);
                if (which == NONE || bitOf(told, which) == 1) {
                    return true;
                }
                goOn();
                if (!takeDigit(sign == 'p' ? 2 : 0, mostOf(sign))) {
                    return false;
                }
                items.set(which, digit);
                told |= 1 << which;
            }
            return true;
        }

        private int mostOf(int letter) {
            switch (letter) {
                case 'a': return draft.houses - 1;
                case 's': return STEP_MOST;
                case 'k': return KIND_RETURNING;
                case 'e': return 1;
                default: return 9;
            }
        }

        private boolean takeDigit(int least, int most) {
            digit = nextSign() - '0';
            if (!within(digit, least, most)) {
                return false;
            }
            goOn();
            return true;
        }
    }

    /** Reads a RULE into signs that stand behind what they work on, so that its WORTH needs a stack alone. */
    private static final class RuleReader extends Reader {
        private static final int DIGITS_MOST = 4;

        private final Row signs = new Row(TAPE_MOST);
        private final Row numbers = new Row(TAPE_MOST);
        private int length = 0;

        RuleReader(Tape tape) {
            super(tape);
        }

        Rule made() {
            return new Rule(signs, numbers, length);
        }

        int read() {
            begin();
            length = 0;
            for (int i = 0; i < TAPE_MOST && readClause(); i++) {
                if (!take(';')) {
                    return nextSign() == NONE ? NONE : faultHere();
                }
            }
            return faultHere();
        }

        private boolean readClause() {
            if (!take('y') || !take(':')) {
                return false;
            }
            boolean sumIsRead = nextSign() != '!' && nextSign() != '(';
            if (sumIsRead && !readSum(0)) {
                return false;
            }
            if (sumIsRead && !isRelation(nextSign())) {
                write(Rule.ANSWER, 0);
                return true;
            }
            if (!readCondition(0, sumIsRead) || !take('?')) {
                return false;
            }
            int unless = length;
            write(Rule.UNLESS, 0);
            if (!readSum(0)) {
                return false;
            }
            write(Rule.ANSWER, 0);
            numbers.set(unless, length);
            return true;
        }

        private boolean readCondition(int depth, boolean sumIsRead) {
            if (!readTruth(depth, sumIsRead)) {
                return false;
            }
            for (int i = 0; i < TAPE_MOST && take('|'); i++) {
                if (!readTruth(depth, false)) {
                    return false;
                }
                write('|', 0);
            }
            return true;
        }

        private boolean readTruth(int depth, boolean sumIsRead) {
            if (!readUnit(depth, sumIsRead)) {
                return false;
            }
            for (int i = 0; i < TAPE_MOST && take('&'); i++) {
                if (!readUnit(depth, false)) {
                    return false;
                }
                write('&', 0);
            }
            return true;
        }

        private boolean readUnit(int depth, boolean sumIsRead) {
            int sign = sumIsRead ? NONE : nextSign();
            if (sign == '!' || sign == '(') {
                if (depth >= NEST_MOST) {
                    return false;
                }
                goOn();
                return sign == '!' ? readDenied(depth + 1) : readCondition(depth + 1, false) && take(')');
            }
            if (!sumIsRead && !readSum(depth)) {
                return false;
            }
            int relation = nextSign();
            if (!isRelation(relation)) {
                return false;
            }
            goOn();
            if (!readSum(depth)) {
                return false;
            }
            write(relation, 0);
            return true;
        }

        private boolean readDenied(int depth) {
            if (!readUnit(depth, false)) {
                return false;
            }
            write('!', 0);
            return true;
        }

        private boolean readSum(int depth) {
            if (!readTerm(depth)) {
                return false;
            }
            for (int i = 0; i < TAPE_MOST; i++) {
                int sign = nextSign();
                if (sign != '+' && sign != '-') {
                    return true;
                }
                goOn();
                if (!readTerm(depth)) {
                    return false;
                }
                write(sign, 0);
            }
            return false;
        }

        private boolean readTerm(int depth) {
            if (!readAtom(depth)) {
                return false;
            }
            for (int i = 0; i < TAPE_MOST; i++) {
                int sign = nextSign();
                if (sign != '*' && sign != '/') {
                    return true;
                }
                goOn();
                if (!readAtom(depth)) {
                    return false;
                }
                write(sign, 0);
            }
            return false;
        }

        private boolean readAtom(int depth) {
            int sign = nextSign();
            if (sign == '[') {
                if (depth >= NEST_MOST) {
                    return false;
                }
                goOn();
                return readSum(depth + 1) && take(']');
            }
            if (isDigit(sign)) {
                return readNumber();
            }
            int letter = sign == NONE ? NONE : Rule.LETTERS.indexOf((char) sign);
            if (letter == NONE) {
                return false;
            }
            goOn();
            write(Rule.LETTER, letter);
            return true;
        }

        private boolean readNumber() {
            int number = 0;
            for (int i = 0; i < DIGITS_MOST && isDigit(signHere()); i++) {
                number = 10 * number + signHere() - '0';
                goOn();
            }
            write(Rule.NUMBER, number);
            return !isDigit(signHere());
        }

        private void write(int sign, int number) {
            signs.set(length, sign);
            numbers.set(length, number);
            length++;
        }

        private static boolean isDigit(int sign) {
            return sign >= '0' && sign <= '9';
        }

        private static boolean isRelation(int sign) {
            return sign == '=' || sign == '<' || sign == '>';
        }
    }

    /** A RULE as it was read: signs, each behind what it works on, and the number of each. */
    private static final class Rule {
        static final String LETTERS = "nhsqmw";
        static final int NUMBER = '0';
        static final int LETTER = 'a';
        static final int UNLESS = '?';
        static final int ANSWER = ';';

        private final Row signs;
        private final Row numbers;

        Rule(Row signs, Row numbers, int length) {
            this.signs = new Row(length);
            this.numbers = new Row(length);
            this.signs.copy(signs);
            this.numbers.copy(numbers);
        }

        int worth(Row letters, Row stack) {
            int top = 0;
            for (int i = 0; i < signs.length(); i++) {
                int sign = signs.at(i);
                int number = numbers.at(i);
                switch (sign) {
                    case NUMBER:
                        stack.set(top++, number);
                        break;
                    case LETTER:
                        stack.set(top++, letters.at(number));
                        break;
                    case '!':
                        stack.set(top - 1, 1 - stack.at(top - 1));
                        break;
                    case UNLESS:
                        top--;
                        // The next CLAUSE begins at that number: the loop's own step leads there.
                        i = stack.at(top) == 0 ? Math.max(i, number - 1) : i;
                        break;
                    case ANSWER:
                        return stack.at(top - 1);
                    default:
                        top--;
                        stack.set(top - 1, joined(sign, stack.at(top - 1), stack.at(top)));
                }
            }
            return 0;
        }

        private static int joined(int sign, long left, long right) {
            long number;
            switch (sign) {
                case '+': number = left + right; break;
                case '-': number = left - right; break;
                case '*': number = left * right; break;
                case '/': number = right == 0 ? 0 : left / right; break;
                case '=': number = left == right ? 1 : 0; break;
                case '<': number = left < right ? 1 : 0; break;
                case '>': number = left > right ? 1 : 0; break;
                case '&': number = left & right; break;
                default: number = left | right;
            }
            if (number > NUMBER_MOST) {
                return NUMBER_MOST;
            }
            return number < -NUMBER_MOST ? -NUMBER_MOST : (int) number;
        }
    }

    /** A STREET as it was told, and which SLEEPER has which RULE; without HOUSES there is none. */
    private static final class Street {
        int houses = 0;
        int sleepers = 0;
        int things = 0;
        int first = 0;
        int period = 0;
        int firstFull = 0;
        final Row home = new Row(SLEEPERS_MOST);
        final Row step = new Row(SLEEPERS_MOST);
        final Row kind = new Row(SLEEPERS_MOST);
        final Row highest = new Row(SLEEPERS_MOST);
        final Row rule = new Row(SLEEPERS_MOST);

        void clear() {
            houses = 0;
            sleepers = 0;
            things = 0;
            first = 0;
            period = 0;
            firstFull = 0;
            rule.fill(NONE);
        }

        void copy(Street other) {
            houses = other.houses;
            sleepers = other.sleepers;
            things = other.things;
            first = other.first;
            period = other.period;
            firstFull = other.firstFull;
            home.copy(other.home);
            step.copy(other.step);
            kind.copy(other.kind);
            highest.copy(other.highest);
            rule.copy(other.rule);
        }

        boolean addSleeper(Row items) {
            home.set(sleepers, items.at(0));
            step.set(sleepers, items.at(1));
            kind.set(sleepers, items.at(2));
            highest.set(sleepers, items.at(3));
            sleepers++;
            return true;
        }

        boolean addThing(Row items) {
            first = placed(first, things, items.at(0));
            things++;
            return true;
        }

        boolean addMoon(Row items) {
            period = items.at(0);
            firstFull = items.at(1);
            return true;
        }

        boolean isTold() {
            return houses > 0;
        }

        boolean hasHouse(int house) {
            return within(house, 0, houses - 1);
        }

        boolean hasSleeper(int sleeper) {
            return within(sleeper, 0, sleepers - 1);
        }

        boolean hasThing(int thing) {
            return within(thing, 0, things - 1);
        }

        int feverish() {
            int count = 0;
            for (int w = 0; w < sleepers; w++) {
                if (kind.at(w) == KIND_FEVERISH) {
                    count++;
                }
            }
            return count;
        }

        boolean isFull(int night) {
            return period > 0 && night >= firstFull && (night - firstFull) % period == 0;
        }

        int moonStand(int night) {
            return period > 0 ? Math.floorMod(night - firstFull, period) : 0;
        }

        int around(int house, int stride) {
            return houses > 0 ? Math.floorMod(house + stride, houses) : 0;
        }

        int thingsIn(int places, int house) {
            int bits = 0;
            for (int thing = 0; thing < things; thing++) {
                if (placeIn(places, thing) == house) {
                    bits |= 1 << thing;
                }
            }
            return bits;
        }

        int fullestHouse(int places) {
            int most = NONE;
            int fullest = NONE;
            for (int house = 0; house < houses; house++) {
                int lying = Integer.bitCount(thingsIn(places, house));
                if (lying > most) {
                    most = lying;
                    fullest = house;
                }
            }
            return fullest;
        }

        int elsewhere(int places, int others) {
            int bits = 0;
            for (int thing = 0; thing < things; thing++) {
                if (placeIn(places, thing) != placeIn(others, thing)) {
                    bits |= 1 << thing;
                }
            }
            return bits;
        }

        // Starts number all places there can be, so that a lower start has lower digits, too.
        int starts() {
            int count = 1;
            for (int thing = 0; thing < things; thing++) {
                count *= houses;
            }
            return count;
        }

        int startOf(int places) {
            int start = 0;
            for (int thing = 0; thing < things; thing++) {
                start = start * houses + placeIn(places, thing);
            }
            return start;
        }

        int placesOf(int start) {
            int places = 0;
            int rest = start;
            for (int thing = things - 1; thing >= 0 && houses > 0; thing--) {
                places = placed(places, thing, rest % houses);
                rest /= houses;
            }
            return places;
        }

        int digitsOf(int places) {
            int digits = 0;
            for (int thing = 0; thing < things; thing++) {
                digits = 10 * digits + placeIn(places, thing);
            }
            return digits;
        }
    }

    /** How it stands: where THINGS lie, the NIGHT that is next, LOCKS, draws. */
    private static class Stand {
        int places = 0;
        int night = 0;
        int locks = 0;
        long draws = 0;

        final void copy(Stand other) {
            places = other.places;
            night = other.night;
            locks = other.locks;
            draws = other.draws;
        }
    }

    /** Walks NIGHTS on a stand of its own, so that a question leaves everything as it is. */
    private static final class Dream extends Stand {
        private static final int WORTH_NIGHTS = 64;
        private static final int WORTH_CROWDS = THINGS_MOST + 1;
        private static final int WORTHS = WORTH_NIGHTS * SLEEPERS_MOST * WORTH_CROWDS;
        private static final int WALKS_MOST = ODDS_NIGHTS_MOST * SLEEPERS_MOST;

        private final Street street;
        private final ArrayList<Rule> rules;
        final Row forcedStep = new Row(SLEEPERS_MOST);
        final Row carried = new Row(SLEEPERS_MOST + 1);
        final Row carriers = new Row(THINGS_MOST);
        int risk = 0;
        int inBed = NONE;
        int guestHome = NONE;
        int guestStep = 0;
        private int strideAhead = 0;
        private int oddsThing = 0;
        private int oddsHouse = 0;
        private int oddsRisk = 0;
        private final Row letters = new Row(Rule.LETTERS.length());
        private final Row stack = new Row(TAPE_MOST);
        private final Row worths = new Row(WORTHS);
        private final Row worthNights = new Row(WORTHS);

        Dream(Street street, ArrayList<Rule> rules) {
            this.street = street;
            this.rules = rules;
        }

        void begin(Stand from) {
            copy(from);
            forcedStep.fill(NONE);
            carried.fill(0);
            carriers.fill(0);
            risk = 0;
            inBed = NONE;
            guestHome = NONE;
        }

        void forgetWorths() {
            worthNights.fill(NONE);
        }

        void goOn(int n) {
            for (int i = 0; i < n; i++) {
                goOneNight();
            }
        }

        void goOneNight() {
            for (int w = 0; w < street.sleepers; w++) {
                walk(w);
            }
            if (guestHome != NONE) {
                carry(street.sleepers, guestHome, street.around(guestHome, guestStep), false);
            }
            night++;
        }

        int roundKey() {
            return (street.moonStand(night) << (3 * THINGS_MOST)) | places;
        }

        private void walk(int w) {
            int kind = street.kind.at(w);
            int stride;
            if (w == inBed || (kind == KIND_FEVERISH && hasFever())) {
                stride = 0;
            } else if (kind == KIND_FOLLOWING && w > 0) {
                stride = strideAhead;
            } else {
                stride = ownStride(w);
            }
            strideAhead = stride;
            int home = street.home.at(w);
            int there = street.around(home, stride);
            boolean highest = street.highest.at(w) == 1;
            if (kind == KIND_RETURNING) {
                carry(w, there, home, highest);
            } else {
                carry(w, home, there, highest);
            }
        }

        private boolean hasFever() {
            if (risk == 0) {
                return false;
            }
            draws = draws * 6364136223846793005L + 1442695040888963407L;
            return (draws >>> 33) % 100 < risk;
        }

        private int ownStride(int w) {
            Rule rule = ruleOf(w);
            int own;
            if (forcedStep.at(w) != NONE) {
                own = forcedStep.at(w);
            } else if (rule == null) {
                own = street.step.at(w);
            } else {
                // In one NIGHT a RULE hangs on q alone, and searches ask it the same over and over: so it is kept.
                int lying = Integer.bitCount(street.thingsIn(places, street.home.at(w)));
                int slot = (night % WORTH_NIGHTS * SLEEPERS_MOST + w) * WORTH_CROWDS + lying;
                if (worthNights.at(slot) != night) {
                    tellLetters(w, lying);
                    worths.set(slot, rule.worth(letters, stack));
                    worthNights.set(slot, night);
                }
                own = worths.at(slot);
            }
            return street.kind.at(w) == KIND_MOON && street.isFull(night) ? -own : own;
        }

        private Rule ruleOf(int w) {
            int number = street.rule.at(w);
            return number >= 0 && number < rules.size() ? rules.get(number) : null;
        }

        private void tellLetters(int w, int lying) {
            letters.set(0, night);
            letters.set(1, street.home.at(w));
            letters.set(2, street.step.at(w));
            letters.set(3, lying);
            letters.set(4, street.isFull(night) ? 1 : 0);
            letters.set(5, w);
        }

        private void carry(int w, int from, int to, boolean highest) {
            int lying = street.thingsIn(places, from);
            if (lying == 0 || from == to || bitOf(locks, from) == 1 || bitOf(locks, to) == 1) {
                return;
            }
            int lowest = Integer.numberOfTrailingZeros(lying);
            int thing = highest ? 31 - Integer.numberOfLeadingZeros(lying) : lowest;
            places = placed(places, thing, to);
            carried.set(w, carried.at(w) + 1);
            carriers.set(thing, carriers.at(thing) | (1 << w));
        }

        long partsInto(int thing, int house, int n, int partsRisk) {
            oddsThing = thing;
            oddsHouse = house;
            oddsRisk = partsRisk;
            return partsFrom(0, n, PARTS, 0);
        }

        private long partsFrom(int w, int nightsLeft, long parts, int depth) {
            int walker = w;
            int left = nightsLeft;
            for (int i = 0; i <= WALKS_MOST; i++) {
                if (walker >= street.sleepers) {
                    walker = 0;
                    left--;
                    night++;
                }
                if (left <= 0) {
                    return placeIn(places, oddsThing) == oddsHouse ? parts : 0;
                }
                if (street.kind.at(walker) == KIND_FEVERISH) {
                    return splitParts(walker, left, parts, depth);
                }
                walk(walker);
                walker++;
            }
            return 0;
        }

        private long splitParts(int w, int left, long parts, int depth) {
            if (depth >= FEVERS_MOST) {
                return 0;
            }
            int placesAhead = places;
            int nightAhead = night;
            long inFever = parts * oddsRisk / 100;
            long into = 0;
            if (inFever > 0) {
                strideAhead = 0;
                into = partsFrom(w + 1, left, inFever, depth + 1);
                places = placesAhead;
                night = nightAhead;
            }
            if (inFever < parts) {
                walk(w);
                into += partsFrom(w + 1, left, parts - inFever, depth + 1);
            }
            return into;
        }
    }

    /** Mornings that were SEEN, each so many NIGHTS from the moment in which they are asked. */
    private static final class Seen {
        private final Row things = new Row(SEEN_MOST);
        private final Row nights = new Row(SEEN_MOST);
        private final Row houses = new Row(SEEN_MOST);
        private final Row lay = new Row(SEEN_MOST);
        int count = 0;
        int latest = 0;

        void forget() {
            count = 0;
            latest = 0;
        }

        void add(int thing, int n, int house, boolean is) {
            things.set(count, thing);
            nights.set(count, n);
            houses.set(count, house);
            lay.set(count, is ? 1 : 0);
            count++;
            latest = Math.max(latest, n);
        }

        boolean allows(int night, int places) {
            for (int i = 0; i < count; i++) {
                boolean lies = placeIn(places, things.at(i)) == houses.at(i);
                if (nights.at(i) == night && lies != (lay.at(i) == 1)) {
                    return false;
                }
            }
            return true;
        }
    }

    /** The latest NIGHTS; the oldest gives way when there is no more room. */
    private static final class Past {
        private final Row places = new Row(NIGHTS_MOST);
        private final Row highDraws = new Row(NIGHTS_MOST);
        private final Row lowDraws = new Row(NIGHTS_MOST);
        private int next = 0;
        int count = 0;

        void forget() {
            count = 0;
        }

        void keep(Stand stand) {
            places.set(next, stand.places);
            highDraws.set(next, (int) (stand.draws >>> 32));
            lowDraws.set(next, (int) stand.draws);
            next = (next + 1) % NIGHTS_MOST;
            count = Math.min(count + 1, NIGHTS_MOST);
        }

        boolean takeBack(Stand stand) {
            if (count == 0) {
                return false;
            }
            count--;
            next = (next + NIGHTS_MOST - 1) % NIGHTS_MOST;
            stand.places = places.at(next);
            stand.draws = ((long) highDraws.at(next) << 32) | (lowDraws.at(next) & 0xFFFFFFFFL);
            stand.night--;
            return true;
        }
    }
}
