/** The Terms of the document, section 1, sentence by sentence: the last that is taken, the first that is not. */
public final class TextTermTests {
    private TextTermTests() {
    }

    public static void main(String[] args) {
        texts();
        rules();
        worths();
        Check.end();
    }

    private static void due(String call, long got, long want) {
        Check.due(call, got, want);
    }

    private static void due(String call, boolean got, boolean want) {
        Check.due(call, got, want);
    }

    private static SleepMoves fed(String text) {
        SleepMoves x = new SleepMoves();
        Check.feed(x, text);
        return x;
    }

    /** The TEXT is a STREET: no FAULT, and so many SLEEPERS. */
    private static SleepMoves whole(String text, int sleepers) {
        SleepMoves x = fed(text);
        due("fault(0) of " + text, x.fault(0), -1);
        due("text(0) of " + text, x.text(0), sleepers);
        due("tape behind " + text, x.count(4), 0);
        return x;
    }

    /** The TEXT is no STREET: its FAULT is told, nothing is taken. */
    private static void faulty(String text, int fault) {
        SleepMoves x = fed(text);
        due("fault(0) of " + text, x.fault(0), fault);
        due("text(0) of " + text, x.text(0), -1);
        due("tape behind " + text, x.count(4), text.length());
        due("no street from " + text, x.count(0), 0);
    }

    private static void wholeRule(String text) {
        SleepMoves x = fed(text);
        due("fault(1) of " + text, x.fault(1), -1);
        due("text(1) of " + text, x.text(1), 0);
        due("tape behind " + text, x.count(4), 0);
    }

    private static void faultyRule(String text, int fault) {
        SleepMoves x = fed(text);
        due("fault(1) of " + text, x.fault(1), fault);
        due("text(1) of " + text, x.text(1), -1);
        due("tape behind " + text, x.count(4), text.length());
        due("no rule from " + text, x.count(3), 0);
    }

    // ==== 1. "A STREET is a TEXT"

    private static void texts() {
        houses();
        goingRound();
        sleepers();
        things();
        oneMoon();
        anyOrder();
        items();
        itemsOnce();
        homes();
        steps();
        kinds();
        highest();
        thingHouses();
        periods();
        firstFull();
        blanks();
        endsTooEarly();
        without();
    }

    /** "h and how many HOUSES (2 .. 8; numbered from 0" */
    private static void houses() {
        for (int h = 2; h <= 8; h++) {
            SleepMoves x = whole("h" + h + ";w;o", 1);
            due("houses of h" + h, x.count(0), h);
            due("house 0 of h" + h, x.house(0, 0), 1);
            due("the last house of h" + h, x.house(h - 1, 0), 0);
            due("one behind the last of h" + h, x.house(h, 0), -1);
            due("one ahead of the first of h" + h, x.house(-1, 0), -1);
        }
        faulty("h1;w;o", 1);
        faulty("h0;w;o", 1);
        faulty("h9;w;o", 1);
        faulty("h/;w;o", 1);
        faulty("h:;w;o", 1);
        faulty("h22;w;o", 2);
        faulty("2;w;o", 0);
    }

    /** "going round" */
    private static void goingRound() {
        for (int h = 2; h <= 8; h++) {
            int last = h - 1;
            due("from the last to house 0 of " + h, Check.street("h" + h + ";wa" + last + ";oa" + last).where(0, 1), 0);
            due("from house 0 to the last of " + h, Check.street("h" + h + ";wk1;o;m").where(0, 1), last);
            due("the last step of " + h, Check.street("h" + h + ";ws7;o").where(0, 1), 7 % h);
            due("far ahead of " + h, Check.ruled("h" + h + ";w;o", "y:1000*1000").where(0, 1), 1000000 % h);
            due("far back of " + h, Check.ruled("h" + h + ";w;o", "y:0-1000*1000").where(0, 1), (h - 1000000 % h) % h);
            due("far back from the last of " + h, Check.ruled("h" + h + ";wa" + last + ";oa" + last, "y:0-1000*1000").where(0, 1),
                (2 * h - 1 - 1000000 % h) % h);
        }
    }

    /** "w (a SLEEPER; 1 .. 5)", "a sixth w" */
    private static void sleepers() {
        faulty("h2;o", 4);
        for (int w = 1; w <= 5; w++) {
            SleepMoves x = whole("h2" + Check.times(w, ";w") + ";o", w);
            due("sleepers", x.count(1), w);
            due("the first one", Check.sleeper(x, 0, 0), 0);
            due("the last of " + w, Check.sleeper(x, w - 1, 1), 1);
            due("one more than " + w, Check.sleeper(x, w, 1), -99);
        }
        faulty("h2" + Check.times(6, ";w") + ";o", 13);
        faulty("h2;o" + Check.times(6, ";w"), 15);
        faulty("h2" + Check.times(5, ";wa1") + ";o;w", 25);
    }

    /** "o (a THING; 1 .. 8)", "a ninth o" */
    private static void things() {
        faulty("h2;w", 4);
        for (int o = 1; o <= 8; o++) {
            SleepMoves x = whole("h2;w" + Check.times(o, ";o"), 1);
            due("things", x.count(2), o);
            due("all lie in house 0", x.house(0, 0), (1 << o) - 1);
            due("the last of " + o, x.thing(o - 1, 0), 0);
            due("one more than " + o, x.thing(o, 0), -1);
        }
        faulty("h2;w" + Check.times(9, ";o"), 21);
        faulty("h2" + Check.times(9, ";o") + ";w", 19);
        faulty("h2" + Check.times(8, ";oa1") + ";w;o", 37);
    }

    /** "m (the MOON; one at most)", "a second m" */
    private static void oneMoon() {
        due("no moon", whole("h2;w;o", 1).count(6), 0);
        due("a moon", whole("h2;w;o;m", 1).count(6), 7);
        faulty("h2;w;o;m;m", 9);
        faulty("h2;m;m;w;o", 5);
        faulty("h2;mp2g0;w;o;mp2", 13);
    }

    /** "in any order" */
    private static void anyOrder() {
        String[] orders = {";w;o;m", ";w;m;o", ";o;w;m", ";o;m;w", ";m;w;o", ";m;o;w", ";o;w;o;m;w;o", ";w;o;w;o;m"};
        for (String order : orders) {
            SleepMoves x = whole("h3" + order, order.equals(";o;w;o;m;w;o") || order.equals(";w;o;w;o;m") ? 2 : 1);
            due("moon of " + order, x.count(6), 7);
        }
        SleepMoves x = whole("h4;oa3;wa1;oa2;m;wa2;oa1", 2);
        due("the first thing", x.thing(0, 1), 3);
        due("the second thing", x.thing(1, 1), 2);
        due("the third thing", x.thing(2, 1), 1);
        due("the first sleeper", Check.sleeper(x, 0, 0), 1);
        due("the second sleeper", Check.sleeper(x, 1, 0), 2);
    }

    /** "ITEMS, none or more: a letter ... and a digit", each with what stands "without" */
    private static void items() {
        SleepMoves x = whole("h3;w;o;m", 1);
        int[] without = {0, 1, 0, 0, -1};
        for (int what = 0; what < 5; what++) {
            due("without items, sleeper 0, " + what, Check.sleeper(x, 0, what), without[what]);
        }
        due("without items, a thing", x.thing(0, 1), 0);
        due("without items, the period", x.count(6), 7);
        due("without items, the first full moon", x.moon(0), 1);
        String[] orders = {"a2s7k4e1", "e1k4s7a2", "k4a2e1s7", "s7e1a2k4"};
        for (String order : orders) {
            SleepMoves y = whole("h3;w" + order + ";o", 1);
            int[] told = {2, 7, 4, 1, -1};
            for (int what = 0; what < 5; what++) {
                due(order + ", " + what, Check.sleeper(y, 0, what), told[what]);
            }
        }
        due("p and g", whole("h3;w;o;mp2g1", 1).moon(1), 1);
        due("g and p", whole("h3;w;o;mg1p2", 1).moon(3), 1);
        faulty("h3;wa;o", 5);
        faulty("h3;w1;o", 4);
        faulty("h3;wa22;o", 6);
        faulty("h3;w;oa;o", 7);
        faulty("h3;w;o1", 6);
        faulty("h3;mp;w;o", 5);
        faulty("h3;m2;w;o", 4);
    }

    /** "each once at most in a CLAUSE", "a letter that was there" */
    private static void itemsOnce() {
        String all = "askepg";
        for (int i = 0; i < 4; i++) {
            char letter = all.charAt(i);
            faulty("h3;w" + letter + "1" + letter + "1;o", 6);
            whole("h3;w" + letter + "1;w" + letter + "1;o", 2);
            faulty("h3;wa1s1k1e1" + letter + "1;o", 12);
        }
        faulty("h3;w;oa1a1", 8);
        whole("h3;w;oa1;oa1", 1);
        faulty("h3;w;o;mp2p2", 10);
        faulty("h3;w;o;mg2g2", 10);
        faulty("h3;w;o;mp2g2p2", 12);
        for (char letter : "pgwom".toCharArray()) {
            faulty("h3;w" + letter + "1;o", 4);
        }
        for (char letter : "skepgwom".toCharArray()) {
            faulty("h3;w;o" + letter + "1", 6);
        }
        for (char letter : "askewom".toCharArray()) {
            faulty("h3;w;o;m" + letter + "1", 8);
        }
    }

    /** "a its HOME (a HOUSE; 0 without)", "a HOUSE that there is not" */
    private static void homes() {
        for (int h = 2; h <= 8; h++) {
            for (int home = 0; home < h; home++) {
                due("home", Check.sleeper(whole("h" + h + ";wa" + home + ";o", 1), 0, 0), home);
            }
            for (int home = h; home <= 9; home++) {
                faulty("h" + h + ";wa" + home + ";o", 5);
            }
        }
        faulty("h8;wa/;o", 5);
        faulty("h8;wa:;o", 5);
    }

    /** "s STEP (0 .. 7; 1)" */
    private static void steps() {
        for (int step = 0; step <= 7; step++) {
            SleepMoves x = whole("h8;ws" + step + ";o", 1);
            due("step", Check.sleeper(x, 0, 1), step);
            due("where with step " + step, x.where(0, 1), step);
        }
        due("without", whole("h8;w;o", 1).where(0, 1), 1);
        faulty("h8;ws8;o", 5);
        faulty("h8;ws9;o", 5);
        faulty("h8;ws/;o", 5);
    }

    /** "k KIND (0 .. 4; 0)" */
    private static void kinds() {
        for (int kind = 0; kind <= 4; kind++) {
            due("kind", Check.sleeper(whole("h8;wk" + kind + ";o", 1), 0, 2), kind);
        }
        due("without", Check.sleeper(whole("h8;w;o", 1), 0, 2), 0);
        faulty("h8;wk5;o", 5);
        faulty("h8;wk9;o", 5);
        faulty("h8;wk/;o", 5);
    }

    /** "e whether it takes the highest THING (0, 1; 0: the lowest)" */
    private static void highest() {
        SleepMoves x = whole("h8;we0;o;o;o", 1);
        due("e0", Check.sleeper(x, 0, 3), 0);
        due("the lowest goes", x.astray(1), 1);
        x = whole("h8;we1;o;o;o", 1);
        due("e1", Check.sleeper(x, 0, 3), 1);
        due("the highest goes", x.astray(1), 4);
        due("of eight the highest goes", whole("h8;we1" + Check.times(8, ";o"), 1).astray(1), 128);
        due("of eight the lowest goes", whole("h8;w" + Check.times(8, ";o"), 1).astray(1), 1);
        due("of one the highest is the lowest", whole("h8;we1;o;oa1", 1).astray(1), 1);
        due("without", whole("h8;w;o;o;o", 1).astray(1), 1);
        faulty("h8;we2;o", 5);
        faulty("h8;we9;o", 5);
        faulty("h8;we/;o", 5);
    }

    /** "of o: a its HOUSE (0)" */
    private static void thingHouses() {
        for (int h = 2; h <= 8; h++) {
            due("house 0", whole("h" + h + ";w;oa0", 1).thing(0, 0), 0);
            due("the last house", whole("h" + h + ";w;oa" + (h - 1), 1).thing(0, 0), h - 1);
            due("as at first", whole("h" + h + ";w;oa" + (h - 1), 1).thing(0, 1), h - 1);
            faulty("h" + h + ";w;oa" + h, 7);
            faulty("h" + h + ";w;oa9", 7);
        }
        faulty("h8;w;oa/", 7);
    }

    /** "p PERIOD (2 .. 9; 7; without a MOON it is never full)" */
    private static void periods() {
        for (int period = 2; period <= 9; period++) {
            SleepMoves x = whole("h2;w;o;mp" + period, 1);
            due("period", x.count(6), period);
            for (int night = 0; night <= 20; night++) {
                due("moon(" + night + ") of " + period, x.moon(night), night % period == 0 ? 1 : 0);
            }
        }
        faulty("h2;w;o;mp1", 9);
        faulty("h2;w;o;mp0", 9);
        faulty("h2;w;o;mp:", 9);
        SleepMoves x = whole("h5;wk1;o", 1);
        for (int night = 0; night <= 20; night++) {
            due("without a moon, night " + night, x.moon(night), 0);
        }
        due("never turned", x.where(0, 1), 1);
        due("m is 0", Check.ruled("h5;w;o", "y:m=0?3;y:2").where(0, 1), 3);
        due("m is 1", Check.ruled("h5;w;o;m", "y:m=1?3;y:2").where(0, 1), 3);
    }

    /** "g the first NIGHT on which it is full (0 .. 9; 0)" */
    private static void firstFull() {
        for (int first = 0; first <= 9; first++) {
            SleepMoves x = whole("h2;w;o;mp2g" + first, 1);
            for (int night = 0; night <= 20; night++) {
                int full = night >= first && (night - first) % 2 == 0 ? 1 : 0;
                due("moon(" + night + ") from " + first, x.moon(night), full);
            }
        }
        faulty("h2;w;o;mg/", 9);
        faulty("h2;w;o;mg:", 9);
        faulty("h2;w;o;mg10", 10);
    }

    /** "Blanks (32) may stand between all signs of both, not within numbers." */
    private static void blanks() {
        whole("  h  3  ;  w  a  2  s  3  ;  o  a  1  ;  m  p  2  g  1  ", 1);
        wholeRule("  y  :  !  (  n  =  1  )  |  2  <  [  h  ]  &  s  >  q  ?  m  +  w  -  1  *  2  /  3  ;  y  :  0  ");
        wholeRule("y:1234 +1");
        wholeRule("y: 1234 ");
        faultyRule("y:1 2", 4);
        faultyRule("y:12 3", 5);
        faultyRule("y:123 4", 6);
        faultyRule("y:1234 5", 7);
        faulty("h\t3;w;o", 1);
        faulty("\th3;w;o", 0);
        faulty("h3;w;o\n", 6);
        faulty("h3;w;o\u00a0", 6);
        faulty("h3;w;o\u001f", 6);
        faulty("h3;w;o!", 6);
        faultyRule("y:1\t", 3);
        faulty(" ", 1);
        faultyRule(" ", 1);
        faulty("h3;w; ", 6);
        faultyRule("y:1; ", 5);
    }

    /** "FAULT: the first byte at which no such TEXT can go on (the length, if it ends too early" */
    private static void endsTooEarly() {
        prefixes("h8;wa7s7k4e1;oa7;mp9g9;w;o", 0, 14, 16, 18, 20, 22, 24, 26);
        prefixes("h2;o;w", 0, 6);
        prefixes(" h 2 ; w ; o ", 0, 12, 13);
        prefixes(" y : n + 1 ", 1, 6, 7, 10, 11);
        prefixes("h2;m;w;o", 0, 8);
        prefixes("y:n", 1, 3);
        prefixes("y:1234", 1, 3, 4, 5, 6);
        prefixes("y:[n]", 1, 5);
        prefixes("y:n=1?2", 1, 3, 7);
        prefixes("y:(n<1)?2;y:3", 1, 9, 13);
        prefixes("y:!n>1&h=2|s<3?q*m/w-5", 1, 16, 18, 20, 22);
    }

    /** Of these many bytes alone the TEXT is whole; else it ends too early. */
    private static void prefixes(String text, int sort, int... wholeOnes) {
        SleepMoves x = fed(text);
        for (int n = text.length(); n >= 0; n--) {
            due("end(" + n + ")", x.end(n), true);
            boolean whole = false;
            for (int one : wholeOnes) {
                whole |= one == n;
            }
            due("fault of " + text.substring(0, n), x.fault(sort), whole ? -1 : n);
        }
    }

    /** "or without a SLEEPER, a THING)" */
    private static void without() {
        faulty("h2;w", 4);
        faulty("h2;o", 4);
        faulty("h2;m", 4);
        faulty("h2", 2);
        faulty("h2;w;w;m", 8);
        faulty("h2;o;o;m", 8);
        faulty("h2;w  ", 6);
        faulty("h2;wx", 4);
        faulty("h2;ox", 4);
    }

    // ==== 1. "RULES (5 at most) are TEXTS"

    private static void rules() {
        fiveRules();
        clauses();
        numbers();
        letters();
        nests();
        mustHaveCondition();
    }

    /** "RULES (5 at most)" */
    private static void fiveRules() {
        SleepMoves x = Check.street("h8;w;o");
        for (int i = 0; i < 5; i++) {
            Check.feed(x, "y:" + (i + 2));
            due("rule " + i, x.text(1), i);
            due("rules", x.count(3), i + 1);
        }
        Check.feed(x, "y:1");
        due("a sixth is no fault", x.fault(1), -1);
        due("a sixth", x.text(1), -1);
        due("five", x.count(3), 5);
        due("the tape", x.count(4), 3);
        for (int i = 0; i < 5; i++) {
            due("rule(0, " + i + ")", x.rule(0, i), true);
            due("by rule " + i, x.where(0, 1), i + 2);
        }
        due("rule(0, 5)", x.rule(0, 5), false);
        due("by the last of them", x.where(0, 1), 6);
    }

    /** "CLAUSES with ; between, one at least: y, : , perhaps CONDITION ?, then SUM." */
    private static void clauses() {
        faultyRule("", 0);
        wholeRule("y:1");
        wholeRule("y:1;y:2");
        faultyRule(";y:1", 0);
        faultyRule("y:1;", 4);
        faultyRule("y:1;;y:1", 4);
        faultyRule("y:1y:1", 3);
        faultyRule("y1", 1);
        faultyRule(":1", 0);
        faultyRule("y:?1", 2);
        faultyRule("y:n=1?", 6);
        faultyRule("y:n=1?;y:1", 6);
        faultyRule("y:n=1?1?1", 7);
        String most = "y:1" + Check.times(39, ";y:1");
        due("the longest", most.length(), 159);
        wholeRule(most);
        wholeRule(most + " ");
        faultyRule(most + ";", 160);
        String longest = "y:1" + Check.times(78, "+1") + " ";
        due("the longest sum", longest.length(), 160);
        wholeRule(longest);
    }

    /** "a number (1 to 4 digits)", "a fifth digit of a RULE" */
    private static void numbers() {
        wholeRule("y:0");
        wholeRule("y:9");
        wholeRule("y:10");
        wholeRule("y:999");
        wholeRule("y:9999");
        wholeRule("y:0000");
        faultyRule("y:00000", 6);
        faultyRule("y:12345", 6);
        faultyRule("y:123456", 6);
        faultyRule("y:1+23456", 8);
        faultyRule("y:[12345]", 7);
        faultyRule("y:12345=1?1", 6);
        faultyRule("y:/", 2);
        faultyRule("y:9/:", 4);
        due("the highest number", Check.ruled("h8;w;o", "y:9999=9998+1&9999>9998?3;y:2").where(0, 1), 3);
    }

    /** "a letter (n h s q m w)" */
    private static void letters() {
        for (char letter = 1; letter < 256; letter++) {
            boolean isAtom = "nhsqmw".indexOf(letter) >= 0 || (letter >= '0' && letter <= '9');
            if (isAtom) {
                wholeRule("y:" + letter);
            } else if (letter == ' ' || letter == '[' || letter == '(' || letter == '!') {
                faultyRule("y:" + letter, 3);
            } else {
                faultyRule("y:" + letter, 2);
            }
        }
    }

    /** "At most six of ( [ ! within one another.", "a seventh of ( [ !" */
    private static void nests() {
        wholeRule("y:" + Check.times(6, "[") + "n" + Check.times(6, "]"));
        faultyRule("y:" + Check.times(7, "[") + "n" + Check.times(7, "]"), 8);
        wholeRule("y:" + Check.times(6, "(") + "n=1" + Check.times(6, ")") + "?1");
        faultyRule("y:" + Check.times(7, "(") + "n=1" + Check.times(7, ")") + "?1", 8);
        wholeRule("y:" + Check.times(6, "!") + "n=1?1");
        faultyRule("y:" + Check.times(7, "!") + "n=1?1", 8);
        wholeRule("y:!(!(!(n=1)))?1");
        faultyRule("y:!(!(!(!n=1)))?1", 8);
        faultyRule("y:!(!(!((n=1))))?1", 8);
        faultyRule("y:!(!(!([n]=1)))?1", 8);
        faultyRule("y:!(!(!(1=[n])))?1", 10);
        wholeRule("y:!!!(((1=1)))?1");
        wholeRule("y:!!!(([1]=[1]))?1");
        wholeRule("y:!!!(([1]=[1])&([1]=[1]))?1");
        faultyRule("y:!!!(([[1]]=1))?1", 8);
        wholeRule("y:" + Check.times(6, "[") + "1" + Check.times(6, "]") + "+" + Check.times(6, "[") + "1" + Check.times(6, "]"));
        wholeRule("y:" + Check.times(6, "!") + "n=1&" + Check.times(6, "!") + "n=1|" + Check.times(6, "!") + "n=1?" + Check.times(6, "[") + "1" + Check.times(6, "]"));
        wholeRule("y:" + Check.times(6, "(") + "n=1" + Check.times(6, ")") + "?1;y:" + Check.times(6, "(") + "n=1" + Check.times(6, ")") + "?1");
        wholeRule("y:" + Check.times(5, "[") + "[1]+[1]*[1]" + Check.times(5, "]"));
        faultyRule("y:" + Check.times(5, "[") + "[1]+[1]*[[1]]" + Check.times(5, "]"), 16);
        faultyRule("y:n=1?" + Check.times(7, "[") + "1" + Check.times(7, "]"), 12);
        wholeRule("y:" + Check.times(6, "[") + "1" + Check.times(6, "]") + "=" + Check.times(6, "[") + "1" + Check.times(6, "]") + "?1");
        faultyRule("y:" + Check.times(6, "[") + "1" + Check.times(6, "]") + "=" + Check.times(7, "[") + "1", 22);
    }

    /** "(A CLAUSE that goes on with ! or ( behind its : has a CONDITION.)" */
    private static void mustHaveCondition() {
        faultyRule("y:(1)", 4);
        faultyRule("y:(1)?1", 4);
        faultyRule("y:(1+2)*3", 6);
        faultyRule("y:(n=1)", 7);
        faultyRule("y:(n=1);y:1", 7);
        faultyRule("y:!1", 4);
        faultyRule("y:!n=1", 6);
        faultyRule("y:n=1", 5);
        faultyRule("y:n=1;y:1", 5);
        wholeRule("y:(n=1)?1");
        wholeRule("y:!n=1?1");
        wholeRule("y:[n]=1?1");
        wholeRule("y:[n]");
    }

    // ==== 1. "Behind each sign numbers are within -1,000,000 .. 1,000,000"

    /** The CONDITION holds. */
    private static void holds(String condition) {
        due(condition, Check.ruled("h8;w;o", "y:" + condition + "?3;y:2").where(0, 1), 3);
        due("not " + condition, Check.ruled("h8;w;o", "y:!(" + condition + ")?3;y:2").where(0, 1), 2);
    }

    private static void worths() {
        bounds();
        divisions();
        firstClause();
        lettersOfNow();
    }

    private static void bounds() {
        holds("1000*1000-9999*100=100");
        holds("9999*100+99-9999*100=99");
        holds("9999*100+100-9999*100=100");
        holds("9999*100+101-9999*100=100");
        holds("1000*1000+1=1000*1000");
        holds("1000*1000+9999=1000*1000");
        holds("1000*1001=1000*1000");
        holds("9999*9999=1000*1000");
        holds("1000*1000+1-1=9999*100+99");
        holds("0-9999*100-99+9999*100=0-99");
        holds("0-9999*100-100+9999*100=0-100");
        holds("0-9999*100-101+9999*100=0-100");
        holds("0-1000*1000-1=0-1000*1000");
        holds("[0-1000]*1000-9999=0-1000*1000");
        holds("[0-1000]*1001=0-1000*1000");
        holds("[0-9999]*9999=0-1000*1000");
        holds("0-1000*1000-1+1=0-9999*100-99");
        holds("[0-9999*9999]*[0-9999*9999]=1000*1000");
        holds("9999*9999*9999/9999=100");
        holds("1000*1000>9999*100+99");
        holds("0-1000*1000<0-9999*100-99");
        due("the highest worth", Check.ruled("h7;w;o", "y:9999*9999").where(0, 1), 1);
        due("the lowest worth", Check.ruled("h7;w;o", "y:0-9999*9999").where(0, 1), 6);
        due("the highest worth, turned", Check.ruled("h7;wk1;o;m", "y:9999*9999").where(0, 1), 6);
        due("the lowest worth, turned", Check.ruled("h7;wk1;o;m", "y:0-9999*9999").where(0, 1), 1);
    }

    /** "/ cuts towards 0, by 0 gives 0." */
    private static void divisions() {
        holds("7/2=3");
        holds("6/2=3");
        holds("1/2=0");
        holds("[0-7]/2=0-3");
        holds("7/[0-2]=0-3");
        holds("[0-7]/[0-2]=3");
        holds("[0-1]/2=0");
        holds("5/0=0");
        holds("0/0=0");
        holds("[0-5]/0=0");
        holds("5/0+4=4");
        holds("5/[3-3]=0");
        holds("9999*9999/0=0");
        holds("9999/1=9999");
        holds("0-1000*1000/[0-1]=1000*1000");
        holds("[0-1000*1000]/[0-1]=1000*1000");
        holds("8/2/2=2");
        holds("8/2*2=8");
        holds("7/2*2=6");
    }

    /** "WORTH: the SUM of the first CLAUSE whose CONDITION holds (or has none), 0 without." */
    private static void firstClause() {
        due("the first that holds", Check.ruled("h8;w;o", "y:1=2?2;y:1=1?3;y:1=1?4;y:5").where(0, 1), 3);
        due("the first that has none", Check.ruled("h8;w;o", "y:1=2?2;y:5;y:1=1?3").where(0, 1), 5);
        due("the last one", Check.ruled("h8;w;o", "y:1=2?2;y:1=3?3;y:1=4?4;y:6").where(0, 1), 6);
        SleepMoves x = Check.ruled("h8;w;o", "y:1=2?2;y:1=3?3");
        due("none: 0", x.where(0, 1), 0);
        due("none: nothing carried", x.carries(0, 9), 0);
        due("of forty the last", Check.ruled("h8;w;o", Check.times(17, "y:1=2?3;") + "y:1=1?7").where(0, 1), 7);
        holds("1<2");
        holds("!2<2");
        holds("!3<2");
        holds("2>1");
        holds("!2>2");
        holds("!1>2");
        holds("2=2");
        holds("!1=2");
    }

    /** "letters: n the NIGHT, h its HOME, s its STEP, q how many THINGS lie in its HOME, m ..., w its number" */
    private static void lettersOfNow() {
        SleepMoves x = Check.ruled("h8;w;o", "y:n+3");
        due("n is 0 in the first night", x.where(0, 1), 3);
        x.nights(60);
        x.put(0, 0);
        due("n is 60 then", x.where(0, 1), 63 % 8);
        due("h from 0", Check.ruled("h8;wa0;oa0", "y:h+3").where(0, 1), 3);
        due("h to 7", Check.ruled("h8;wa7;oa7", "y:h+3").where(0, 1), 1);
        due("s from 0", Check.ruled("h8;ws0;o", "y:s+3").where(0, 1), 3);
        due("s to 7", Check.ruled("h8;ws7;o", "y:s+3").where(0, 1), 2);
        due("q to 8", Check.ruled("h7;w" + Check.times(8, ";o"), "y:q").where(0, 1), 1);
        due("q from 0", Check.ruled("h7;wk4;oa3", "y:q+3").where(0, 1), 0);
        due("m 1", Check.ruled("h7;w;o;m", "y:m+3").where(0, 1), 4);
        due("m 0", Check.ruled("h7;w;o;mg1", "y:m+3").where(0, 1), 3);
        due("w from 0", Check.ruled("h7;w;o", "y:w+3").where(0, 1), 3);
        SleepMoves crowd = Check.ruled("h7;w;wa1" + Check.times(8, ";o"), "y:q-7");
        Check.rule(crowd, 1, "y:q+2");
        due("q is 8, then 1", crowd.where(0, 1), 4);
        SleepMoves y = Check.street("h7;w;w;w;w;wa1;oa1");
        Check.rule(y, 4, "y:w");
        due("w to 4", y.where(0, 1), 5);
    }
}
