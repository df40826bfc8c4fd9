import java.util.Random;

/** Random whole texts. */
final class Texts {
    private static final String[] LABELS = {"", "cde", "sv"};
    private static final String[] LETTERS = {"", "inkp", "tcwlijnpy"};

    private Texts() {
    }

    static String whole(Random random, int sort, int depth) {
        if (sort == 0) {
            return saying(random, 6, depth);
        }
        StringBuilder text = new StringBuilder();
        for (int left = 1 + random.nextInt(3); left > 0; left--) {
            String label = pick(random, LABELS[sort]);
            text.append(label).append(blank(random)).append(':');
            if (random.nextInt(3) == 0) {
                text.append(condition(random, sort, depth - 1)).append('?');
            }
            text.append(sum(random, sort, depth - 1)).append(left > 1 ? ";" : "");
        }
        return text.toString();
    }

    static String saying(Random random, int names, int depth) {
        int kind = depth < 1 ? 0 : random.nextInt(6);
        if (kind < 2) {
            return blank(random) + (char) ('a' + random.nextInt(names)) + blank(random);
        }
        if (kind == 2) {
            return "!" + (random.nextBoolean() ? "(" + saying(random, names, depth - 1) + ")" : saying(random, names, 0));
        }
        String sign = random.nextBoolean() ? "&" : "|";
        String both = saying(random, names, depth - 1) + sign + saying(random, names, depth - 1);
        return random.nextBoolean() ? "(" + both + ")" : both;
    }

    static String condition(Random random, int sort, int depth) {
        int kind = depth < 1 ? 0 : random.nextInt(6);
        if (kind < 2) {
            return sum(random, sort, depth - 1) + pick(random, "=<>") + sum(random, sort, depth - 1);
        }
        if (kind == 2) {
            return "!" + (random.nextBoolean() ? "(" + condition(random, sort, depth - 1) + ")"
                    : condition(random, sort, 0));
        }
        String sign = random.nextBoolean() ? "&" : "|";
        String both = condition(random, sort, depth - 1) + sign + condition(random, sort, depth - 1);
        return random.nextBoolean() ? "(" + both + ")" : both;
    }

    static String sum(Random random, int sort, int depth) {
        int kind = depth < 1 ? 0 : random.nextInt(5);
        if (kind < 2) {
            String number = String.valueOf(random.nextInt(random.nextBoolean() ? 10 : 10000));
            return blank(random) + (random.nextBoolean() ? number : pick(random, LETTERS[sort])) + blank(random);
        }
        String both = sum(random, sort, depth - 1) + pick(random, "+-*/") + sum(random, sort, depth - 1);
        return random.nextBoolean() ? "[" + both + "]" : both;
    }

    private static String pick(Random random, String signs) {
        return String.valueOf(signs.charAt(random.nextInt(signs.length())));
    }

    private static String blank(Random random) {
        return random.nextInt(8) == 0 ? " " : "";
    }
}
