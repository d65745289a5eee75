import java.util.Random;

/** Makes texts of streets and rules, whole ones and damaged ones. */
final class Texts {
    private final Random random;

    Texts(Random random) {
        this.random = random;
    }

    String street() {
        int houses = 2 + random.nextInt(random.nextInt(3) == 0 ? 7 : 4);
        StringBuilder text = new StringBuilder("h").append(houses);
        int sleepers = 1 + random.nextInt(5);
        int things = 1 + random.nextInt(random.nextInt(3) == 0 ? 8 : 4);
        boolean moon = random.nextInt(2) == 0;
        int feverish = random.nextInt(3);
        while (sleepers + things > 0 || moon) {
            int which = random.nextInt(3);
            if (which == 0 && sleepers > 0) {
                sleepers--;
                text.append(";w");
                item(text, 'a', houses, 3);
                item(text, 's', 8, 2);
                item(text, 'k', feverish == 0 ? 5 : 3, 2);
                item(text, 'e', 2, 2);
                if (feverish > 0 && random.nextInt(5) == 0) {
                    text.append(text.indexOf("k", text.lastIndexOf(";")) < 0 ? "k" + (3 + random.nextInt(2)) : "");
                }
            } else if (which == 1 && things > 0) {
                things--;
                text.append(";o");
                item(text, 'a', houses, 3);
            } else if (which == 2 && moon) {
                moon = false;
                text.append(";m");
                if (random.nextBoolean()) {
                    text.append('p').append(2 + random.nextInt(8));
                }
                item(text, 'g', 10, 2);
            }
        }
        return text.toString();
    }

    private void item(StringBuilder text, char letter, int digits, int often) {
        if (random.nextInt(often) > 0) {
            text.append(letter).append(random.nextInt(digits));
        }
    }

    String rule() {
        String text = "";
        do {
            text = text + (text.isEmpty() ? "" : ";") + "y:" + (random.nextInt(3) > 0 ? condition(6) + "?" : "") + sum(6);
        } while (random.nextInt(3) > 0);
        return text.length() > 150 ? rule() : text;
    }

    private String condition(int depth) {
        String text = truth(depth);
        return random.nextInt(4) == 0 ? text + "|" + condition(depth) : text;
    }

    private String truth(int depth) {
        String text = unit(depth);
        return random.nextInt(4) == 0 ? text + "&" + truth(depth) : text;
    }

    private String unit(int depth) {
        int which = depth == 0 ? 9 : random.nextInt(8);
        if (which == 0) {
            return "!" + unit(depth - 1);
        }
        return which == 1 ? "(" + condition(depth - 1) + ")" : sum(depth) + "=<>".charAt(random.nextInt(3)) + sum(depth);
    }

    private String sum(int depth) {
        String text = term(depth);
        return random.nextInt(3) == 0 ? text + "+-".charAt(random.nextInt(2)) + sum(depth) : text;
    }

    private String term(int depth) {
        String text = atom(depth);
        return random.nextInt(4) == 0 ? text + "*/".charAt(random.nextInt(2)) + term(depth) : text;
    }

    private String atom(int depth) {
        int which = random.nextInt(9);
        if (which == 0 && depth > 0) {
            return "[" + sum(depth - 1) + "]";
        }
        if (which < 3) {
            return Integer.toString(random.nextInt(10));
        }
        return which == 3 ? Integer.toString(random.nextInt(10000)) : "" + "nhsqmw".charAt(random.nextInt(6));
    }

    /** Blanks between signs, which change nothing in a street. */
    String spread(String text) {
        StringBuilder spread = new StringBuilder();
        for (char sign : text.toCharArray()) {
            spread.append(random.nextInt(12) == 0 ? " " : "").append(sign);
        }
        return spread.toString();
    }

    /** A sign more, a sign less, or another one. */
    String damaged(String text) {
        String signs = "hwomaskepgy:;?!()[]|&=<>+-*/0123456789nq ;;x\u00ff";
        StringBuilder damaged = new StringBuilder(text);
        for (int i = 1 + random.nextInt(2); i > 0; i--) {
            int at = random.nextInt(damaged.length() + 1);
            char sign = signs.charAt(random.nextInt(signs.length()));
            int how = at == damaged.length() ? 0 : random.nextInt(4);
            if (how == 0) {
                damaged.insert(at, sign);
            } else if (how == 1) {
                damaged.deleteCharAt(at);
            } else if (how == 2) {
                damaged.setCharAt(at, sign);
            } else {
                damaged.setLength(at);
            }
        }
        return damaged.toString();
    }
}
