import java.math.BigInteger;
import java.util.ArrayList;
import java.util.List;

/** The document's WORTHS and TALKS the long way: texts are split at their signs each time they are asked. */
final class Model {
    static final long FACTOR = 6364136223846793005L;
    static final long ADDEND = 1442695040888963407L;

    final String saying;
    final int prime;
    final String law;
    final String giant;
    final int names;
    long claim;
    long firstClaim;
    int gaveUp = -1;
    final List<Long> draws = new ArrayList<>();
    final List<List<Long>> said = new ArrayList<>();

    Model(String saying, int prime, String law, String giant) {
        this.saying = bare(saying);
        this.prime = prime;
        this.law = bare(law);
        this.giant = bare(giant);
        this.names = namesOf(saying);
    }

    static String bare(String text) {
        return text.replace(" ", "");
    }

    static int namesOf(String saying) {
        int names = 0;
        for (char sign : saying.toCharArray()) {
            if (sign >= 'a' && sign <= 'f') {
                names = Math.max(names, sign - 'a' + 1);
            }
        }
        return names;
    }

    static int steepOf(String saying, int name) {
        return (int) saying.chars().filter(sign -> sign == 'a' + name).count();
    }

    static int workOf(String saying) {
        return (int) saying.chars().filter(sign -> "!&|".indexOf(sign) >= 0).count();
    }

    /** The last of these signs that stands in no brackets, but at 0; or -1. */
    private static int lastOf(String text, String signs) {
        int depth = 0;
        for (int i = text.length() - 1; i > 0; i--) {
            char sign = text.charAt(i);
            if (sign == ')' || sign == ']') {
                depth++;
            } else if (sign == '(' || sign == '[') {
                depth--;
            } else if (depth == 0 && signs.indexOf(sign) >= 0) {
                return i;
            }
        }
        return -1;
    }

    static BigInteger worth(String bare, long[] point, BigInteger p) {
        for (String sign : new String[] {"|", "&"}) {
            int at = lastOf(bare, sign);
            if (at > 0) {
                BigInteger u = worth(bare.substring(0, at), point, p);
                BigInteger v = worth(bare.substring(at + 1), point, p);
                return (sign.equals("&") ? u.multiply(v) : u.add(v).subtract(u.multiply(v))).mod(p);
            }
        }
        if (bare.charAt(0) == '!') {
            return BigInteger.ONE.subtract(worth(bare.substring(1), point, p)).mod(p);
        }
        if (bare.charAt(0) == '(') {
            return worth(bare.substring(1, bare.length() - 1), point, p);
        }
        return BigInteger.valueOf(point[bare.charAt(0) - 'a']).mod(p);
    }

    static long sumOver(String bare, long[] point, int told, long p) {
        int names = namesOf(bare);
        if (told >= names) {
            return worth(bare, point, BigInteger.valueOf(p)).longValue();
        }
        long total = 0;
        for (int bit = 0; bit < 2; bit++) {
            long[] next = point.clone();
            next[told] = bit;
            total += sumOver(bare, next, told + 1, p);
        }
        return total % p;
    }

    /** Lagrange's way. */
    static long curveAt(List<Long> values, long p, long x) {
        BigInteger modulus = BigInteger.valueOf(p);
        BigInteger total = BigInteger.ZERO;
        for (int j = 0; j < values.size(); j++) {
            BigInteger part = BigInteger.valueOf(values.get(j));
            for (int i = 0; i < values.size(); i++) {
                if (i != j) {
                    BigInteger below = BigInteger.valueOf(j - i).mod(modulus);
                    part = part.multiply(BigInteger.valueOf(x - i)).multiply(below.modInverse(modulus)).mod(modulus);
                }
            }
            total = total.add(part).mod(modulus);
        }
        return total.longValue();
    }

    static long within(BigInteger number) {
        BigInteger far = BigInteger.valueOf(2_000_000_000L);
        return number.max(far.negate()).min(far).longValue();
    }

    static long sum(String bare, String letters, long[] numbers) {
        for (String signs : new String[] {"+-", "*/"}) {
            int at = lastOf(bare, signs);
            if (at > 0) {
                BigInteger a = BigInteger.valueOf(sum(bare.substring(0, at), letters, numbers));
                BigInteger b = BigInteger.valueOf(sum(bare.substring(at + 1), letters, numbers));
                switch (bare.charAt(at)) {
                    case '+':
                        return within(a.add(b));
                    case '-':
                        return within(a.subtract(b));
                    case '*':
                        return within(a.multiply(b));
                    default:
                        return b.signum() == 0 ? 0 : within(a.divide(b));
                }
            }
        }
        if (bare.charAt(0) == '[') {
            return sum(bare.substring(1, bare.length() - 1), letters, numbers);
        }
        int letter = letters.indexOf(bare.charAt(0));
        return letter >= 0 ? numbers[letter] : Long.parseLong(bare);
    }

    static boolean holds(String bare, String letters, long[] numbers) {
        int at = lastOf(bare, "|");
        if (at > 0) {
            return holds(bare.substring(0, at), letters, numbers) || holds(bare.substring(at + 1), letters, numbers);
        }
        at = lastOf(bare, "&");
        if (at > 0) {
            return holds(bare.substring(0, at), letters, numbers) && holds(bare.substring(at + 1), letters, numbers);
        }
        if (bare.charAt(0) == '!') {
            return !holds(bare.substring(1), letters, numbers);
        }
        if (bare.charAt(0) == '(') {
            return holds(bare.substring(1, bare.length() - 1), letters, numbers);
        }
        at = lastOf(bare, "=<>");
        long a = sum(bare.substring(0, at), letters, numbers);
        long b = sum(bare.substring(at + 1), letters, numbers);
        return bare.charAt(at) == '=' ? a == b : bare.charAt(at) == '<' ? a < b : a > b;
    }

    static long label(String bare, char label, String letters, long... numbers) {
        for (String clause : bare.split(";")) {
            String body = clause.substring(2);
            int mark = body.indexOf('?');
            if (clause.charAt(0) == label && (mark < 0 || holds(body.substring(0, mark), letters, numbers))) {
                return sum(body.substring(mark + 1), letters, numbers);
            }
        }
        return 0;
    }

    long lawWorth(char label, int round) {
        long k = round < names ? steepOf(saying, round) : 0;
        return label(law, label, "inpk", round, names, prime, k);
    }

    long dice(int round) {
        return Math.max(1, Math.min(prime, lawWorth('d', round)));
    }

    private void begin(int y) {
        long corners = sumOver(saying, new long[6], 0, 1_000_000_007) % prime;
        // Letters that are not told are 0.
        long s = label(giant, 's', "tcwlijnpy", corners, corners, corners, 0, 0, 0, names, prime, y);
        claim = Math.floorMod(s, (long) prime);
        firstClaim = claim;
        draws.clear();
        said.clear();
        gaveUp = -1;
    }

    private long truth(int round, int j) {
        long[] point = new long[6];
        for (int name = 0; name < round; name++) {
            point[name] = draws.get(name);
        }
        point[round] = j;
        return sumOver(saying, point, round + 1, prime);
    }

    private void say(int round, int y) {
        List<Long> values = new ArrayList<>();
        long w = (truth(round, 0) + truth(round, 1)) % prime;
        long l = round == 0 ? 0 : draws.get(round - 1);
        for (int j = 0; j <= steepOf(saying, round); j++) {
            long v = label(giant, 'v', "tcwlijnpy", truth(round, j), claim, w, l, round, j, names, prime, y);
            values.add(Math.floorMod(v, (long) prime));
        }
        said.add(values);
    }

    private boolean goesOn(int round) {
        List<Long> values = said.get(round);
        long both = (values.get(0) + values.get(values.size() > 1 ? 1 : 0)) % prime;
        return lawWorth('c', round) == 0 || both == claim;
    }

    private boolean ends() {
        long[] point = new long[6];
        for (int name = 0; name < names; name++) {
            point[name] = draws.get(name);
        }
        return lawWorth('e', names) == 0 || worth(saying, point, BigInteger.valueOf(prime)).longValue() == claim;
    }

    /** A run by seed, or, if the seed is null, the FIXED one. */
    boolean run(Long seed, int y) {
        begin(y);
        long x = seed == null ? FACTOR + ADDEND + claim : seed;
        for (int round = 0; round < names; round++) {
            say(round, y);
            if (!goesOn(round)) {
                gaveUp = round;
                return false;
            }
            if (seed == null) {
                for (long number : said.get(round)) {
                    x = x * FACTOR + ADDEND + number;
                }
            } else {
                x = x * FACTOR + ADDEND;
            }
            draws.add((x >>> 33) % dice(round));
            claim = curveAt(said.get(round), prime, draws.get(round));
        }
        if (!ends()) {
            gaveUp = names;
            return false;
        }
        return true;
    }

    /** All rows of DRAWS, each talked through from the start; -1 beyond 2,000. */
    int rows() {
        long rows = 1;
        for (int round = 0; round < names && rows <= 2000; round++) {
            rows *= dice(round);
        }
        return rows > 2000 ? -1 : (int) rows;
    }

    int odds(int y) {
        int rows = rows();
        int believed = 0;
        for (int row = 0; row < rows; row++) {
            believed += isBelieved(row, y) ? 1 : 0;
        }
        return believed;
    }

    private boolean isBelieved(int row, int y) {
        begin(y);
        int left = row;
        for (int round = 0; round < names; round++) {
            say(round, y);
            if (!goesOn(round)) {
                return false;
            }
            draws.add((long) (left % (int) dice(round)));
            left /= (int) dice(round);
            claim = curveAt(said.get(round), prime, draws.get(round));
        }
        return ends();
    }

    /** m by trying all curves. */
    static int mostRoots(int prime, int steep, int dice) {
        int curves = 1;
        for (int i = 0; i <= steep; i++) {
            curves *= prime;
        }
        int most = 0;
        for (int curve = 0; curve < curves; curve++) {
            int roots = 0;
            int both = 0;
            for (int x = 0; x < Math.max(2, dice); x++) {
                int value = 0;
                for (int left = curve, i = 0; i <= steep; i++, left /= prime) {
                    value = (value * x + left % prime) % prime;
                }
                both += x < 2 ? value : 0;
                roots += value == 0 && x < dice ? 1 : 0;
            }
            if (both % prime != 0) {
                most = Math.max(most, roots);
            }
        }
        return most;
    }

    /** BEST (or BOUND) as a fraction; null if it is not told. */
    BigInteger[] chance(boolean best) {
        BigInteger above = best ? BigInteger.ONE : BigInteger.ZERO;
        BigInteger below = BigInteger.ONE;
        for (int round = 0; round < names; round++) {
            if (dice(round) > 1000) {
                return null;
            }
            int steep = steepOf(saying, round);
            BigInteger d = BigInteger.valueOf(dice(round));
            boolean asks = lawWorth('c', round) != 0;
            long m = !asks ? dice(round) : !best ? steep : steep == 0 ? 0 : Math.min(steep, Math.max(1, dice(round) - 1));
            if (best) {
                above = above.multiply(d.subtract(BigInteger.valueOf(m)));
            } else {
                above = above.multiply(d).add(below.multiply(BigInteger.valueOf(m)));
            }
            below = below.multiply(d);
        }
        if (below.compareTo(BigInteger.TEN.pow(15)) > 0) {
            return null;
        }
        above = best ? below.subtract(above) : above.min(below);
        if (lawWorth('e', names) == 0) {
            above = below;
        }
        BigInteger common = above.gcd(below);
        return new BigInteger[] {above.divide(common), below.divide(common)};
    }

    int spent() {
        int total = lawWorth('e', names) != 0 ? workOf(saying) : 0;
        for (int round = 0; round < names; round++) {
            int values = steepOf(saying, round) + 1;
            total += 2 * values * values + (lawWorth('c', round) != 0 ? 1 : 0);
        }
        return total;
    }
}
