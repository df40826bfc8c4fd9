import java.util.TreeSet;

/** FAULT found the long way: a prefix can go on if one of a few endings makes it a whole text. */
final class Grammar {
    private final String text;
    private final int sort;
    private final int deepest;

    private Grammar(String text, int sort) {
        this.text = text;
        this.sort = sort;
        this.deepest = sort == 0 ? 8 : 6;
    }

    static int faultOf(String text, int sort) {
        for (int i = 0; i < text.length(); i++) {
            if (!canGoOn(text.substring(0, i + 1), sort)) {
                return i;
            }
        }
        return isWhole(text, sort) ? -1 : text.length();
    }

    private static boolean canGoOn(String prefix, int sort) {
        String[] operands = sort == 0 ? new String[] {"", "a"} : new String[] {"", "1", ":1", sort == 1 ? "c:1" : "s:1"};
        String[] tails = sort == 0 ? new String[] {""} : new String[] {"", "=1"};
        String[] marks = sort == 0 ? new String[] {""} : new String[] {"", "?1"};
        int most = sort == 0 ? 8 : 6;
        for (String operand : operands) {
            for (int squares = 0; squares <= (sort == 0 ? 0 : most); squares++) {
                for (String tail : tails) {
                    for (int rounds = 0; rounds <= most; rounds++) {
                        for (String mark : marks) {
                            String whole = prefix + operand + "]".repeat(squares) + tail + ")".repeat(rounds) + mark;
                            if (isWhole(whole, sort)) {
                                return true;
                            }
                        }
                    }
                }
            }
        }
        return false;
    }

    static boolean isWhole(String text, int sort) {
        Grammar grammar = new Grammar(text, sort);
        TreeSet<Integer> ends = sort == 0 ? grammar.joined(0, "|&!", 0, 0) : grammar.clauses();
        return ends.contains(text.length());
    }

    private static TreeSet<Integer> none() {
        return new TreeSet<>();
    }

    /** All places to which blanks ahead of a place can lead. */
    private int skip(int at) {
        while (at < text.length() && text.charAt(at) == ' ') {
            at++;
        }
        return at;
    }

    private boolean stands(int at, char sign) {
        return at < text.length() && text.charAt(at) == sign;
    }

    /** Ends of UNITS joined: level 0 by |, 1 by &, 2 a UNIT. Ends are behind the blanks that follow. */
    private TreeSet<Integer> joined(int level, String signs, int from, int depth) {
        if (level == 2) {
            return unit(from, depth);
        }
        TreeSet<Integer> ends = none();
        TreeSet<Integer> fresh = joined(level + 1, signs, from, depth);
        while (!fresh.isEmpty()) {
            int end = fresh.pollFirst();
            if (ends.add(end) && stands(end, signs.charAt(level))) {
                fresh.addAll(joined(level + 1, signs, end + 1, depth));
            }
        }
        return ends;
    }

    private TreeSet<Integer> unit(int start, int depth) {
        int at = skip(start);
        TreeSet<Integer> ends = none();
        if (stands(at, '!') && depth < deepest) {
            ends.addAll(unit(at + 1, depth + 1));
        }
        if (stands(at, '(') && depth < deepest) {
            for (int end : joined(0, "|&!", at + 1, depth + 1)) {
                if (stands(end, ')')) {
                    ends.add(skip(end + 1));
                }
            }
        }
        if (sort == 0) {
            if (at < text.length() && text.charAt(at) >= 'a' && text.charAt(at) <= 'f') {
                ends.add(skip(at + 1));
            }
            return ends;
        }
        for (int left : sum(0, at, depth)) {
            if (stands(left, '=') || stands(left, '<') || stands(left, '>')) {
                ends.addAll(sum(0, left + 1, depth));
            }
        }
        return ends;
    }

    private TreeSet<Integer> sum(int level, int from, int depth) {
        if (level == 2) {
            return atom(from, depth);
        }
        String signs = level == 0 ? "+-" : "*/";
        TreeSet<Integer> ends = none();
        TreeSet<Integer> fresh = sum(level + 1, from, depth);
        while (!fresh.isEmpty()) {
            int end = fresh.pollFirst();
            if (ends.add(end) && (stands(end, signs.charAt(0)) || stands(end, signs.charAt(1)))) {
                fresh.addAll(sum(level + 1, end + 1, depth));
            }
        }
        return ends;
    }

    private TreeSet<Integer> atom(int start, int depth) {
        int at = skip(start);
        TreeSet<Integer> ends = none();
        if (stands(at, '[') && depth < deepest) {
            for (int end : sum(0, at + 1, depth + 1)) {
                if (stands(end, ']')) {
                    ends.add(skip(end + 1));
                }
            }
        }
        String letters = sort == 1 ? "inkp" : "tcwlijnpy";
        if (at < text.length() && letters.indexOf(text.charAt(at)) >= 0) {
            ends.add(skip(at + 1));
        }
        for (int digits = 1; digits <= 4 && at + digits <= text.length(); digits++) {
            if (!Character.isDigit(text.charAt(at + digits - 1)) || text.charAt(at + digits - 1) > '9') {
                break;
            }
            ends.add(skip(at + digits));
        }
        return ends;
    }

    private TreeSet<Integer> clauses() {
        TreeSet<Integer> ends = none();
        TreeSet<Integer> fresh = clause(0);
        while (!fresh.isEmpty()) {
            int end = fresh.pollFirst();
            if (ends.add(end) && stands(end, ';')) {
                fresh.addAll(clause(end + 1));
            }
        }
        return ends;
    }

    private TreeSet<Integer> clause(int start) {
        int at = skip(start);
        TreeSet<Integer> ends = none();
        if (at >= text.length() || (sort == 1 ? "cde" : "sv").indexOf(text.charAt(at)) < 0) {
            return ends;
        }
        int colon = skip(at + 1);
        if (!stands(colon, ':')) {
            return ends;
        }
        ends.addAll(sum(0, colon + 1, 0));
        for (int mark : joined(0, "|&!", colon + 1, 0)) {
            if (stands(mark, '?')) {
                ends.addAll(sum(0, mark + 1, 0));
            }
        }
        return ends;
    }
}
