import java.util.NoSuchElementException;
import java.util.Random;

/** Runs of calls on the program and on the model: each answer must be the same. */
public final class ModelTests {
    private static final int RUNS = 1500;
    private static final int CALLS = 160;
    private static final int TEXTS = 60000;

    private final Random random;
    private final Texts texts;
    private final SleepMoves x = new SleepMoves();
    private final Model model = new Model();
    private final StringBuilder calls = new StringBuilder();

    private ModelTests(long seed) {
        random = new Random(seed);
        texts = new Texts(random);
    }

    public static void main(String[] args) {
        for (int run = 0; run < RUNS; run++) {
            new ModelTests(run).go();
        }
        new ModelTests(-1).faults();
        Check.end();
    }

    private void go() {
        streetText();
        for (int i = 0; i < CALLS; i++) {
            call();
        }
    }

    private void due(String call, long got, long want) {
        calls.append(call).append('\n');
        if (got != want) {
            System.out.println(calls);
        }
        Check.due(call, got, want);
    }

    private void due(String call, boolean got, boolean want) {
        due(call, got ? 1 : 0, want ? 1 : 0);
    }

    private void feed(String text) {
        for (int i = 0; i < text.length(); i += 20) {
            int[] n = new int[5];
            for (int k = 0; k < 20; k++) {
                int sign = i + k < text.length() ? text.charAt(i + k) : 0;
                n[k / 4] = n[k / 4] << 8 | sign;
            }
            due("feed of " + text, x.feed(n[0], n[1], n[2], n[3], n[4]), model.feed(n));
        }
    }

    private void faults() {
        for (int i = 0; i < TEXTS; i++) {
            calls.setLength(0);
            boolean street = random.nextBoolean();
            String text = texts.spread(street ? texts.street() : texts.rule());
            text = random.nextInt(4) == 0 ? text : texts.damaged(text);
            text = text.substring(0, Math.min(160, text.length()));
            int sort = street ? 0 : 1;
            end(0);
            feed(text);
            due("fault", x.fault(sort), model.fault(sort));
            due("fault of the other sort", x.fault(1 - sort), model.fault(1 - sort));
            if (i % 10 == 0) {
                prefixes(text, sort, x.fault(sort));
            }
        }
    }

    /** Ahead of the FAULT a text can go on; from the FAULT on it cannot. */
    private void prefixes(String text, int sort, int fault) {
        for (int n = text.length(); n >= 0; n--) {
            x.end(n);
            model.end(n);
            int got = x.fault(sort);
            boolean fits = fault >= 0 && n > fault ? got == fault : got == -1 || got == n;
            due("fault of the first " + n + " bytes of " + text, fits, true);
        }
    }

    private void end(int n) {
        due("end " + n, x.end(n), model.end(n));
    }

    private void streetText() {
        end(0);
        String text = texts.spread(texts.street());
        feed(random.nextInt(12) == 0 ? texts.damaged(text) : text);
        due("fault(0)", x.fault(0), model.fault(0));
        due("text(0)", x.text(0), model.text(0));
    }

    private void ruleText() {
        end(0);
        String text = texts.rule();
        feed(random.nextInt(12) == 0 ? texts.damaged(text) : text);
        due("fault(1)", x.fault(1), model.fault(1));
        due("text(1)", x.text(1), model.text(1));
    }

    private int some(int count) {
        int which = random.nextInt(12);
        return which == 0 ? -1 : which == 1 ? count : random.nextInt(Math.max(1, count));
    }

    private int any() {
        int[] odd = {0, -1, -2, Integer.MIN_VALUE, Integer.MAX_VALUE, 61, 1000};
        return odd[random.nextInt(odd.length)];
    }

    private int someNights(int most) {
        return random.nextInt(15) == 0 ? (random.nextBoolean() ? any() : most + 1) : 1 + random.nextInt(most);
    }

    private int someThing() {
        return random.nextInt(40) == 0 ? any() : some(model.count(2));
    }

    private int someHouse() {
        return random.nextInt(40) == 0 ? any() : some(model.count(0));
    }

    private int someSleeper() {
        return random.nextInt(40) == 0 ? any() : some(model.count(1));
    }

    private int what(int count) {
        return random.nextInt(10) == 0 ? any() : random.nextInt(count + 1);
    }

    private void call() {
        int which = random.nextInt(46);
        if (which < 12) {
            change(which);
        } else if (which < 24) {
            look(which);
        } else if (which < 36) {
            ask(which);
        } else {
            askIf(which);
        }
    }

    private void change(int which) {
        int thing = someThing();
        int house = someHouse();
        int sleeper = someSleeper();
        int n = random.nextInt(3) > 0 ? 1 + random.nextInt(4) : someNights(60);
        boolean is = random.nextBoolean();
        switch (which) {
            case 0:
                if (random.nextInt(12) == 0) {
                    streetText();
                } else {
                    ruleText();
                }
                break;
            case 1: case 2: {
                int rule = random.nextInt(20) == 0 ? any() : random.nextInt(model.count(3) + 2) - 1;
                due("rule " + sleeper + " " + rule, x.rule(sleeper, rule), model.rule(sleeper, rule));
                break;
            }
            case 3: {
                int v = random.nextInt(8) == 0 ? any() : random.nextInt(103) - 1;
                due("risk " + v, x.risk(v), model.risk(v));
                break;
            }
            case 4: {
                long v = random.nextLong();
                due("seed " + v, x.seed(v), model.seed(v));
                break;
            }
            case 5: due("put " + thing + " " + house, x.put(thing, house), model.put(thing, house)); break;
            case 6: due("lock " + house + " " + is, x.lock(house, is), model.lock(house, is)); break;
            case 7: case 8: due("nights " + n, x.nights(n), model.nights(n)); break;
            case 9: due("undo", x.undo(), model.undo()); break;
            case 10: due("image", x.image(), model.image()); break;
            default: due("back", x.back(), model.back());
        }
    }

    private void look(int which) {
        int thing = someThing();
        int house = someHouse();
        int sleeper = someSleeper();
        switch (which) {
            case 12: {
                int what = what(4);
                due("sleeper " + sleeper + " " + what, sleeperOf(sleeper, what), sleeperOfModel(sleeper, what));
                break;
            }
            case 13: {
                int what = what(2);
                due("thing " + thing + " " + what, x.thing(thing, what), model.thing(thing, what));
                break;
            }
            case 14: {
                int what = what(2);
                due("house " + house + " " + what, x.house(house, what), model.house(house, what));
                break;
            }
            case 15: {
                int night = random.nextInt(5) == 0 ? any() : random.nextInt(50);
                due("moon " + night, x.moon(night), model.moon(night));
                break;
            }
            case 16: {
                int sort = what(2);
                due("fault " + sort, x.fault(sort), model.fault(sort));
                break;
            }
            case 17: {
                int n = some(model.count(4));
                end(n);
                break;
            }
            case 18: {
                int sort = random.nextInt(5) - 1;
                due("text " + sort, x.text(sort), model.text(sort));
                break;
            }
            default:
                for (int what = -1; what <= 10; what++) {
                    due("count " + what, x.count(what), model.count(what));
                }
        }
    }

    private int sleeperOf(int sleeper, int what) {
        try {
            return x.sleeper(sleeper, what);
        } catch (NoSuchElementException e) {
            return -99;
        }
    }

    private int sleeperOfModel(int sleeper, int what) {
        try {
            return model.sleeper(sleeper, what);
        } catch (NoSuchElementException e) {
            return -99;
        }
    }

    private void ask(int which) {
        int thing = someThing();
        int other = someThing();
        int house = someHouse();
        int sleeper = someSleeper();
        int n = someNights(60);
        int what = what(2);
        String with = " thing " + thing + " other " + other + " house " + house + " sleeper " + sleeper + " n " + n + " what " + what;
        switch (which) {
            case 24: due("where" + with, x.where(thing, n), model.where(thing, n)); break;
            case 25: due("carries" + with, x.carries(sleeper, n), model.carries(sleeper, n)); break;
            case 26: due("touched" + with, x.touched(thing, n), model.touched(thing, n)); break;
            case 27: due("empty" + with, x.empty(house, n), model.empty(house, n)); break;
            case 28: due("met" + with, x.met(thing, other, n, what), model.met(thing, other, n, what)); break;
            case 29: due("round" + with, x.round(what), model.round(what)); break;
            case 30: {
                int i = random.nextInt(8) - 2;
                due("path" + with + " i " + i, x.path(thing, n, i), model.path(thing, n, i));
                break;
            }
            case 31: due("span" + with, x.span(thing, n), model.span(thing, n)); break;
            case 32: due("fullest" + with, x.fullest(n, what), model.fullest(n, what)); break;
            case 33: due("astray" + with, x.astray(n - 1), model.astray(n - 1)); break;
            case 34: due("quiet" + with, x.quiet(sleeper, n), model.quiet(sleeper, n)); break;
            default: due("culprit" + with, x.culprit(n), model.culprit(n));
        }
    }

    private void askIf(int which) {
        int thing = someThing();
        int house = someHouse();
        int sleeper = someSleeper();
        int other = someSleeper();
        int n = random.nextInt(6) == 0 ? someNights(60) : 1 + random.nextInt(5);
        int what = what(2);
        boolean is = random.nextInt(3) == 0;
        String with = " thing " + thing + " house " + house + " sleeper " + sleeper + " other " + other + " n " + n
            + " what " + what;
        switch (which) {
            case 36: due("see" + with + is, x.see(thing, n, house, is), model.see(thing, n, house, is)); break;
            case 37: seeWhatComes(); break;
            case 38: due("fits" + with, x.fits(sleeper), model.fits(sleeper)); break;
            case 39: due("pairs" + with, x.pairs(sleeper, other), model.pairs(sleeper, other)); break;
            case 40: due("awake", x.awake(), model.awake()); break;
            case 41: due("test" + with, x.test(sleeper, n, what), model.test(sleeper, n, what)); break;
            case 42: due("odds" + with, x.odds(thing, n, house), model.odds(thing, n, house)); break;
            case 43: due("stay" + with, x.stay(thing, n), model.stay(thing, n)); break;
            case 44: due("homing" + with, x.homing(n, what), model.homing(n, what)); break;
            default: {
                int step = what(7);
                due("guest" + with + " step " + step, x.guest(house, step, n, what), model.guest(house, step, n, what));
            }
        }
    }

    /** What is SEEN as it will be leaves some steps that fit. */
    private void seeWhatComes() {
        int thing = random.nextInt(Math.max(1, model.count(2)));
        int n = 1 + random.nextInt(30);
        int house = model.where(thing, n);
        due("see " + thing + " " + n + " " + house, x.see(thing, n, house, true), model.see(thing, n, house, true));
    }
}
