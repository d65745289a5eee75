import java.util.ArrayDeque;
import java.util.ArrayList;
import java.util.Arrays;
import java.util.Deque;
import java.util.HashMap;
import java.util.HashSet;
import java.util.Iterator;
import java.util.List;
import java.util.Map;
import java.util.NoSuchElementException;
import java.util.Set;

/** The document once more, slow and from traces of whole walks: what the program is held against. */
final class Model {
    static final int NONE = -1;
    static final int HIDDEN = -1000000;

    private static final class Fault extends Exception {
        private static final long serialVersionUID = 1;
        final int at;

        Fault(int at) {
            this.at = at;
        }
    }

    private static final class Sign {
        final String text;
        final int at;

        Sign(String text, int at) {
            this.text = text;
            this.at = at;
        }
    }

    private static final class Sleeper {
        int home = 0;
        int step = 1;
        int kind = 0;
        int highest = 0;
        int rule = NONE;
    }

    private static final class Street {
        int houses;
        final List<Sleeper> sleepers = new ArrayList<>();
        final List<Integer> first = new ArrayList<>();
        int period = 0;
        int full = 0;
    }

    private interface Number {
        long of(Map<Character, Integer> letters);
    }

    private interface Truth {
        boolean of(Map<Character, Integer> letters);
    }

    private static final class Clause {
        Truth when;
        Number sum;
    }

    private static final class State {
        int[] places;
        int night;
        Set<Integer> locks = new HashSet<>();
        long draws;

        State copy() {
            State s = new State();
            s.places = places.clone();
            s.night = night;
            s.locks = new HashSet<>(locks);
            s.draws = draws;
            return s;
        }
    }

    private static final class Walk {
        final Map<Integer, Integer> forced = new HashMap<>();
        int inBed = NONE;
        Sleeper guest = null;
        Iterator<Boolean> fevers = null;
        final List<int[]> behind = new ArrayList<>();
        final List<int[]> carries = new ArrayList<>();
    }

    private final StringBuilder tape = new StringBuilder();
    private Street street = null;
    private final List<List<Clause>> rules = new ArrayList<>();
    private State now = new State();
    private State image = null;
    private int risk = 0;
    private final Deque<State> past = new ArrayDeque<>();
    private final List<int[]> seen = new ArrayList<>();

    // ---- texts

    private static List<Sign> signs(String text) {
        List<Sign> signs = new ArrayList<>();
        int i = 0;
        while (i < text.length()) {
            int from = i;
            if (text.charAt(i) == ' ') {
                i++;
                continue;
            }
            if (Character.isDigit(text.charAt(i)) && text.charAt(i) < 128) {
                while (i < text.length() && i < from + 4 && text.charAt(i) >= '0' && text.charAt(i) <= '9') {
                    i++;
                }
            } else {
                i++;
            }
            signs.add(new Sign(text.substring(from, i), from));
        }
        signs.add(new Sign("end", text.length()));
        return signs;
    }

    private static List<Sign> single(String text) {
        List<Sign> signs = new ArrayList<>();
        for (int i = 0; i < text.length(); i++) {
            if (text.charAt(i) != ' ') {
                signs.add(new Sign(text.substring(i, i + 1), i));
            }
        }
        signs.add(new Sign("end", text.length()));
        return signs;
    }

    private static final class Signs {
        final List<Sign> signs;
        int i = 0;

        Signs(List<Sign> signs) {
            this.signs = signs;
        }

        String here() {
            return signs.get(i).text;
        }

        boolean is(String any) {
            return here().length() == 1 && any.contains(here());
        }

        String take(String any) throws Fault {
            if (!is(any)) {
                throw fault();
            }
            return signs.get(i++).text;
        }

        Fault fault() {
            return new Fault(signs.get(i).at);
        }
    }

    private static Street streetOf(String text) throws Fault {
        Signs in = new Signs(single(text));
        Street street = new Street();
        in.take("h");
        street.houses = Integer.parseInt(in.take("2345678"));
        boolean moon = false;
        while (in.is(";")) {
            in.take(";");
            String open = (street.sleepers.size() < 5 ? "w" : "") + (street.first.size() < 8 ? "o" : "") + (moon ? "" : "m");
            String sort = in.take(open);
            String houses = "01234567".substring(0, street.houses);
            Map<String, String> digits = new HashMap<>();
            if (sort.equals("w")) {
                digits.putAll(Map.of("a", houses, "s", "01234567", "k", "01234", "e", "01"));
            } else if (sort.equals("o")) {
                digits.put("a", houses);
            } else {
                moon = true;
                digits.putAll(Map.of("p", "23456789", "g", "0123456789"));
            }
            Map<String, Integer> told = new HashMap<>();
            while (in.here().length() == 1 && digits.containsKey(in.here()) && !told.containsKey(in.here())) {
                String letter = in.take("askepg");
                told.put(letter, Integer.parseInt(in.take(digits.get(letter))));
            }
            if (sort.equals("w")) {
                Sleeper sleeper = new Sleeper();
                sleeper.home = told.getOrDefault("a", 0);
                sleeper.step = told.getOrDefault("s", 1);
                sleeper.kind = told.getOrDefault("k", 0);
                sleeper.highest = told.getOrDefault("e", 0);
                street.sleepers.add(sleeper);
            } else if (sort.equals("o")) {
                street.first.add(told.getOrDefault("a", 0));
            } else {
                street.period = told.getOrDefault("p", 7);
                street.full = told.getOrDefault("g", 0);
            }
        }
        if (!in.here().equals("end") || street.sleepers.isEmpty() || street.first.isEmpty()) {
            throw in.fault();
        }
        return street;
    }

    private static List<Clause> ruleOf(String text) throws Fault {
        Signs in = new Signs(signs(text));
        List<Clause> clauses = new ArrayList<>();
        do {
            if (!clauses.isEmpty()) {
                in.take(";");
            }
            in.take("y");
            in.take(":");
            Clause clause = new Clause();
            if (in.is("!(")) {
                clause.when = condition(in, 0, null);
            } else {
                clause.sum = sum(in, 0);
                if (in.is("=<>")) {
                    clause.when = condition(in, 0, clause.sum);
                }
            }
            if (clause.when != null) {
                in.take("?");
                clause.sum = sum(in, 0);
            }
            clauses.add(clause);
        } while (in.is(";"));
        if (!in.here().equals("end")) {
            throw in.fault();
        }
        return clauses;
    }

    private static Truth condition(Signs in, int open, Number begun) throws Fault {
        Truth all = null;
        Number first = begun;
        do {
            if (all != null) {
                in.take("|");
            }
            Truth one = truth(in, open, first);
            first = null;
            Truth left = all;
            all = left == null ? one : l -> left.of(l) || one.of(l);
        } while (in.is("|"));
        return all;
    }

    private static Truth truth(Signs in, int open, Number begun) throws Fault {
        Truth all = null;
        Number first = begun;
        do {
            if (all != null) {
                in.take("&");
            }
            Truth one = unit(in, open, first);
            first = null;
            Truth left = all;
            all = left == null ? one : l -> left.of(l) && one.of(l);
        } while (in.is("&"));
        return all;
    }

    private static Truth unit(Signs in, int open, Number begun) throws Fault {
        if (begun == null && in.is("!(")) {
            if (open == 6) {
                throw in.fault();
            }
            if (in.take("!(").equals("!")) {
                Truth inner = unit(in, open + 1, null);
                return l -> !inner.of(l);
            }
            Truth inner = condition(in, open + 1, null);
            in.take(")");
            return inner;
        }
        Number left = begun == null ? sum(in, open) : begun;
        String relation = in.take("=<>");
        Number right = sum(in, open);
        switch (relation) {
            case "=": return l -> left.of(l) == right.of(l);
            case "<": return l -> left.of(l) < right.of(l);
            default: return l -> left.of(l) > right.of(l);
        }
    }

    private static long near(long number) {
        return number > 1000000 ? 1000000 : number < -1000000 ? -1000000 : number;
    }

    private static Number sum(Signs in, int open) throws Fault {
        Number all = term(in, open);
        while (in.is("+-")) {
            boolean plus = in.take("+-").equals("+");
            Number left = all;
            Number right = term(in, open);
            all = plus ? l -> near(left.of(l) + right.of(l)) : l -> near(left.of(l) - right.of(l));
        }
        return all;
    }

    private static Number term(Signs in, int open) throws Fault {
        Number all = atom(in, open);
        while (in.is("*/")) {
            boolean times = in.take("*/").equals("*");
            Number left = all;
            Number right = atom(in, open);
            all = times ? l -> near(left.of(l) * right.of(l)) : l -> right.of(l) == 0 ? 0 : left.of(l) / right.of(l);
        }
        return all;
    }

    private static Number atom(Signs in, int open) throws Fault {
        if (in.is("[")) {
            if (open == 6) {
                throw in.fault();
            }
            in.take("[");
            Number inner = sum(in, open + 1);
            in.take("]");
            return inner;
        }
        if (in.is("nhsqmw")) {
            char letter = in.take("nhsqmw").charAt(0);
            return l -> l.get(letter);
        }
        if (in.here().matches("[0-9]{1,4}")) {
            int number = Integer.parseInt(in.here());
            in.i++;
            // a fifth digit stands behind its number as a sign of its own, which nothing takes
            return l -> number;
        }
        throw in.fault();
    }

    // ---- nights

    private boolean full(int night) {
        return street.period > 0 && night >= street.full && (night - street.full) % street.period == 0;
    }

    private long worth(Sleeper s, int w, State state) {
        int lying = 0;
        for (int place : state.places) {
            lying += place == s.home ? 1 : 0;
        }
        Map<Character, Integer> letters = Map.of('n', state.night, 'h', s.home, 's', s.step, 'q', lying, 'm',
            full(state.night) ? 1 : 0, 'w', w);
        for (Clause clause : rules.get(s.rule)) {
            if (clause.when == null || clause.when.of(letters)) {
                return clause.sum.of(letters);
            }
        }
        return 0;
    }

    private void night(State state, Walk walk) {
        List<Long> strides = new ArrayList<>();
        List<Sleeper> walkers = new ArrayList<>(street.sleepers);
        if (walk.guest != null) {
            walkers.add(walk.guest);
        }
        for (int w = 0; w < walkers.size(); w++) {
            Sleeper s = walkers.get(w);
            long stride = walk.forced.containsKey(w) ? walk.forced.get(w) : s.rule == NONE ? s.step : worth(s, w, state);
            if (s.kind == 1 && full(state.night)) {
                stride = -stride;
            }
            if (s.kind == 2 && w > 0) {
                stride = strides.get(w - 1);
            }
            if (s.kind == 3 && walk.fevers != null && walk.fevers.next()) {
                stride = 0;
            }
            if (w == walk.inBed) {
                stride = 0;
            }
            strides.add(stride);
            int there = (int) (((s.home + stride) % street.houses + street.houses) % street.houses);
            int from = s.kind == 4 ? there : s.home;
            int to = s.kind == 4 ? s.home : there;
            List<Integer> lying = new ArrayList<>();
            for (int thing = 0; thing < state.places.length; thing++) {
                if (state.places[thing] == from) {
                    lying.add(thing);
                }
            }
            if (lying.isEmpty() || from == to || state.locks.contains(from) || state.locks.contains(to)) {
                continue;
            }
            int thing = lying.get(s.highest == 1 ? lying.size() - 1 : 0);
            state.places[thing] = to;
            walk.carries.add(new int[] {w, thing});
        }
        state.night++;
        walk.behind.add(state.places.clone());
    }

    private Walk walk(State from, int n, Walk walk) {
        State state = from.copy();
        for (int i = 0; i < n; i++) {
            night(state, walk);
        }
        return walk;
    }

    private Walk walk(int n) {
        return walk(now, n, new Walk());
    }

    private static int[] last(Walk walk) {
        return walk.behind.get(walk.behind.size() - 1);
    }

    private static int differing(int[] a, int[] b) {
        int count = 0;
        for (int i = 0; i < a.length; i++) {
            count += a[i] == b[i] ? 0 : 1;
        }
        return count;
    }

    private boolean isThing(int thing) {
        return street != null && thing >= 0 && thing < street.first.size();
    }

    private boolean isHouse(int house) {
        return street != null && house >= 0 && house < street.houses;
    }

    private boolean isSleeper(int sleeper) {
        return street != null && sleeper >= 0 && sleeper < street.sleepers.size();
    }

    private static boolean in(int n, int least, int most) {
        return n >= least && n <= most;
    }

    // ---- the face

    int feed(int... numbers) {
        StringBuilder more = new StringBuilder();
        for (int number : numbers) {
            for (int i = 3; i >= 0; i--) {
                int sign = (number >> 8 * i) & 0xFF;
                if (sign > 0) {
                    more.append((char) sign);
                }
            }
        }
        if (tape.length() + more.length() > 160) {
            return NONE;
        }
        tape.append(more);
        return tape.length();
    }

    boolean end(int n) {
        if (!in(n, 0, tape.length())) {
            return false;
        }
        tape.setLength(n);
        return true;
    }

    int fault(int sort) {
        try {
            if (sort == 0) {
                streetOf(tape.toString());
            } else if (sort == 1) {
                ruleOf(tape.toString());
            } else {
                return -2;
            }
            return NONE;
        } catch (Fault fault) {
            return fault.at;
        }
    }

    int text(int sort) {
        try {
            if (sort == 0) {
                street = streetOf(tape.toString());
                long draws = now.draws;
                now = new State();
                now.draws = draws;
                now.places = street.first.stream().mapToInt(i -> i).toArray();
                past.clear();
                seen.clear();
                image = null;
                tape.setLength(0);
                return street.sleepers.size();
            }
            if (sort == 1 && rules.size() < 5) {
                rules.add(ruleOf(tape.toString()));
                tape.setLength(0);
                return rules.size() - 1;
            }
            return NONE;
        } catch (Fault fault) {
            return NONE;
        }
    }

    int sleeper(int sleeper, int what) {
        if (!isSleeper(sleeper) || !in(what, 0, 4)) {
            throw new NoSuchElementException();
        }
        Sleeper s = street.sleepers.get(sleeper);
        return new int[] {s.home, s.step, s.kind, s.highest, s.rule}[what];
    }

    int thing(int thing, int what) {
        if (!isThing(thing) || !in(what, 0, 1)) {
            return NONE;
        }
        return what == 0 ? now.places[thing] : street.first.get(thing);
    }

    int house(int house, int what) {
        if (!isHouse(house) || !in(what, 0, 1)) {
            return NONE;
        }
        if (what == 1) {
            return now.locks.contains(house) ? 1 : 0;
        }
        int bits = 0;
        for (int thing = 0; thing < now.places.length; thing++) {
            bits += now.places[thing] == house ? 1 << thing : 0;
        }
        return bits;
    }

    boolean rule(int sleeper, int rule) {
        if (!isSleeper(sleeper) || !in(rule, NONE, rules.size() - 1)) {
            return false;
        }
        street.sleepers.get(sleeper).rule = rule;
        return true;
    }

    boolean risk(int v) {
        if (!in(v, 0, 100)) {
            return false;
        }
        risk = v;
        return true;
    }

    boolean seed(long v) {
        now.draws = v;
        return true;
    }

    boolean put(int thing, int house) {
        if (!isThing(thing) || !isHouse(house) || now.places[thing] == house) {
            return false;
        }
        now.places[thing] = house;
        return true;
    }

    boolean lock(int house, boolean is) {
        return isHouse(house) && (is ? now.locks.add(house) : now.locks.remove(house));
    }

    int nights(int n) {
        if (street == null || !in(n, 1, 60)) {
            return NONE;
        }
        for (int i = 0; i < n; i++) {
            past.push(now.copy());
            Walk walk = new Walk();
            State state = now;
            walk.fevers = risk == 0 ? null : new Iterator<Boolean>() {
                @Override
                public boolean hasNext() {
                    return true;
                }

                @Override
                public Boolean next() {
                    state.draws = state.draws * 6364136223846793005L + 1442695040888963407L;
                    return (state.draws >>> 33) % 100 < risk;
                }
            };
            night(now, walk);
        }
        while (past.size() > 60) {
            past.removeLast();
        }
        return now.night;
    }

    int undo() {
        if (past.isEmpty()) {
            return NONE;
        }
        State then = past.pop();
        then.locks = now.locks;
        now = then;
        return now.night;
    }

    int moon(int night) {
        return street == null || night < 0 ? NONE : full(night) ? 1 : 0;
    }

    int where(int thing, int n) {
        return isThing(thing) && in(n, 1, 60) ? last(walk(n))[thing] : NONE;
    }

    int carries(int sleeper, int n) {
        if (!isSleeper(sleeper) || !in(n, 1, 60)) {
            return NONE;
        }
        return (int) walk(n).carries.stream().filter(c -> c[0] == sleeper).count();
    }

    int touched(int thing, int n) {
        if (!isThing(thing) || !in(n, 1, 60)) {
            return NONE;
        }
        return walk(n).carries.stream().filter(c -> c[1] == thing).mapToInt(c -> 1 << c[0]).reduce(0, (a, b) -> a | b);
    }

    int empty(int house, int n) {
        if (!isHouse(house) || !in(n, 1, 60)) {
            return NONE;
        }
        return (int) walk(n).behind.stream().filter(p -> Arrays.stream(p).noneMatch(h -> h == house)).count();
    }

    int met(int one, int other, int n, int what) {
        if (!isThing(one) || !isThing(other) || one == other || !in(n, 1, 60) || !in(what, 0, 1)) {
            return HIDDEN;
        }
        List<Integer> met = new ArrayList<>();
        Walk walk = walk(n);
        for (int i = 1; i <= n; i++) {
            if (walk.behind.get(i - 1)[one] == walk.behind.get(i - 1)[other]) {
                met.add(i);
            }
        }
        return what == 0 ? met.size() : met.isEmpty() ? NONE : met.get(0);
    }

    int round(int what) {
        if (street == null || !in(what, 0, 1)) {
            return NONE;
        }
        List<String> stands = new ArrayList<>();
        Walk walk = walk(200);
        walk.behind.add(0, now.places);
        for (int i = 0; i <= 200; i++) {
            int moon = street.period == 0 ? 0 : Math.floorMod(now.night + i - street.full, street.period);
            String stand = moon + Arrays.toString(walk.behind.get(i));
            int since = stands.indexOf(stand);
            if (since >= 0) {
                return what == 0 ? since : i - since;
            }
            stands.add(stand);
        }
        return NONE;
    }

    int see(int thing, int n, int house, boolean is) {
        if (!isThing(thing) || !isHouse(house) || !in(n, 1, 30) || seen.size() == 20) {
            return NONE;
        }
        seen.add(new int[] {thing, n, house, is ? 1 : 0});
        return seen.size();
    }

    private boolean asSeen(Walk forced) {
        walk(now, 30, forced);
        return seen.stream().allMatch(s -> (forced.behind.get(s[1] - 1)[s[0]] == s[2]) == (s[3] == 1));
    }

    int fits(int sleeper) {
        if (!isSleeper(sleeper)) {
            return NONE;
        }
        int bits = 0;
        for (int step = 0; step < street.houses; step++) {
            Walk walk = new Walk();
            walk.forced.put(sleeper, step);
            bits += asSeen(walk) ? 1 << step : 0;
        }
        return bits;
    }

    int pairs(int one, int other) {
        if (!isSleeper(one) || !isSleeper(other) || one == other) {
            return NONE;
        }
        int count = 0;
        for (int pair = 0; pair < street.houses * street.houses; pair++) {
            Walk walk = new Walk();
            walk.forced.put(one, pair / street.houses);
            walk.forced.put(other, pair % street.houses);
            count += asSeen(walk) ? 1 : 0;
        }
        return count;
    }

    int awake() {
        if (street == null) {
            return NONE;
        }
        int bits = 0;
        for (int w = 0; w < street.sleepers.size(); w++) {
            bits += fits(w) == 0 ? 1 << w : 0;
        }
        return bits;
    }

    int test(int sleeper, int n, int what) {
        if (!isSleeper(sleeper) || !in(n, 1, 60) || !in(what, 0, 1)) {
            return NONE;
        }
        int best = 0;
        int most = 0;
        for (int code = 0; code < 10 * street.first.size(); code++) {
            if (code % 10 >= street.houses) {
                continue;
            }
            State from = now.copy();
            from.places[code / 10] = code % 10;
            Set<Integer> kinds = new HashSet<>();
            for (int step = 0; step < street.houses; step++) {
                Walk walk = new Walk();
                walk.forced.put(sleeper, step);
                kinds.add(last(walk(from, n, walk))[code / 10]);
            }
            if (kinds.size() > most) {
                most = kinds.size();
                best = code;
            }
        }
        return what == 0 ? best : most;
    }

    int odds(int thing, int n, int house) {
        if (!isThing(thing) || !isHouse(house) || !in(n, 1, 8)) {
            return NONE;
        }
        int walks = n * (int) street.sleepers.stream().filter(s -> s.kind == 3).count();
        if (walks > 12) {
            return NONE;
        }
        long into = 0;
        for (int choice = 0; choice < 1 << walks; choice++) {
            List<Boolean> fevers = new ArrayList<>();
            long parts = 1000000000;
            for (int i = 0; i < walks; i++) {
                boolean fever = (choice >> i & 1) == 1;
                fevers.add(fever);
                parts = fever ? parts * risk / 100 : parts - parts * risk / 100;
            }
            if (parts > 0) {
                Walk walk = new Walk();
                walk.fevers = fevers.iterator();
                into += last(walk(now, n, walk))[thing] == house ? parts : 0;
            }
        }
        return (int) into;
    }

    int stay(int thing, int n) {
        if (!isThing(thing) || !in(n, 1, 60)) {
            return NONE;
        }
        for (int size = 0; size <= 8; size++) {
            for (int bits = 0; bits < 1 << street.houses; bits++) {
                if (Integer.bitCount(bits) != size) {
                    continue;
                }
                State from = now.copy();
                from.locks.clear();
                for (int house = 0; house < street.houses; house++) {
                    if ((bits >> house & 1) == 1) {
                        from.locks.add(house);
                    }
                }
                if (walk(from, n, new Walk()).behind.stream().allMatch(p -> p[thing] == now.places[thing])) {
                    return bits;
                }
            }
        }
        throw new IllegalStateException("all locked, and still it went");
    }

    int homing(int n, int what) {
        if (street == null || street.first.size() > 4 || street.houses > 6 || !in(what, 0, 1)) {
            return HIDDEN;
        }
        if (!in(n, 1, 60)) {
            return NONE;
        }
        int[] goal = street.first.stream().mapToInt(i -> i).toArray();
        int fewest = NONE;
        int best = NONE;
        for (int code = 0; code < Math.pow(10, goal.length); code++) {
            State from = now.copy();
            int rest = code;
            boolean real = true;
            for (int thing = goal.length - 1; thing >= 0; thing--) {
                from.places[thing] = rest % 10;
                real &= rest % 10 < street.houses;
                rest /= 10;
            }
            int moved = differing(from.places, now.places);
            if (real && (fewest == NONE || moved < fewest) && Arrays.equals(last(walk(from, n, new Walk())), goal)) {
                fewest = moved;
                best = code;
            }
        }
        return what == 0 ? fewest : best;
    }

    int quiet(int sleeper, int n) {
        if (!isSleeper(sleeper) || !in(n, 1, 60)) {
            return NONE;
        }
        Walk walk = new Walk();
        walk.inBed = sleeper;
        return differing(last(walk(now, n, walk)), last(walk(n)));
    }

    int culprit(int n) {
        if (street == null || !in(n, 1, 60)) {
            return NONE;
        }
        int culprit = 0;
        for (int w = 1; w < street.sleepers.size(); w++) {
            culprit = quiet(w, n) > quiet(culprit, n) ? w : culprit;
        }
        return culprit;
    }

    int guest(int home, int step, int n, int what) {
        if (!isHouse(home) || !in(step, 0, 7) || !in(n, 1, 60) || !in(what, 0, 1)) {
            return NONE;
        }
        Walk walk = new Walk();
        walk.guest = new Sleeper();
        walk.guest.home = home;
        walk.guest.step = step;
        walk(now, n, walk);
        int guest = street.sleepers.size();
        return what == 0 ? differing(last(walk), last(walk(n))) : (int) walk.carries.stream().filter(c -> c[0] == guest).count();
    }

    private List<Integer> placesOf(int thing, int n) {
        List<Integer> places = new ArrayList<>();
        places.add(now.places[thing]);
        walk(n).behind.forEach(p -> places.add(p[thing]));
        return places;
    }

    int path(int thing, int n, int i) {
        if (!isThing(thing) || !in(n, 1, 60)) {
            return HIDDEN;
        }
        List<Integer> places = placesOf(thing, n);
        List<Integer> path = new ArrayList<>();
        for (int k = 1; k <= n; k++) {
            if (!places.get(k).equals(places.get(k - 1))) {
                path.add(places.get(k));
            }
        }
        return i == NONE ? path.size() : in(i, 0, path.size() - 1) ? path.get(i) : NONE;
    }

    int span(int thing, int n) {
        if (!isThing(thing) || !in(n, 1, 60)) {
            return NONE;
        }
        List<Integer> places = placesOf(thing, n);
        int most = 0;
        for (int from = 0; from <= n; from++) {
            for (int to = from; to <= n; to++) {
                if (new HashSet<>(places.subList(from, to + 1)).size() == 1) {
                    most = Math.max(most, to - from);
                }
            }
        }
        return most;
    }

    int fullest(int n, int what) {
        if (street == null || !in(n, 1, 60) || !in(what, 0, 2)) {
            return NONE;
        }
        int[] best = {0, 0, 0};
        List<int[]> behind = walk(n).behind;
        for (int i = 1; i <= n; i++) {
            for (int house = 0; house < street.houses; house++) {
                int there = house;
                int lying = (int) Arrays.stream(behind.get(i - 1)).filter(h -> h == there).count();
                if (lying > best[0]) {
                    best = new int[] {lying, i, house};
                }
            }
        }
        return best[what];
    }

    int astray(int n) {
        if (street == null || !in(n, 0, 60)) {
            return NONE;
        }
        int[] places = n == 0 ? now.places : last(walk(n));
        int bits = 0;
        for (int thing = 0; thing < places.length; thing++) {
            bits += places[thing] == street.first.get(thing) ? 0 : 1 << thing;
        }
        return bits;
    }

    int image() {
        if (street == null) {
            return NONE;
        }
        image = now.copy();
        return now.night;
    }

    int back() {
        if (image == null) {
            return NONE;
        }
        now = image.copy();
        past.clear();
        return now.night;
    }

    int count(int what) {
        switch (what) {
            case 0: return street == null ? 0 : street.houses;
            case 1: return street == null ? 0 : street.sleepers.size();
            case 2: return street == null ? 0 : street.first.size();
            case 3: return rules.size();
            case 4: return tape.length();
            case 5: return now.night;
            case 6: return street == null ? 0 : street.period;
            case 7: return seen.size();
            case 8: return past.size();
            case 9: return now.locks.stream().mapToInt(h -> 1 << h).sum();
            default: return HIDDEN;
        }
    }
}
