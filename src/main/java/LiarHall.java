import java.util.ArrayList;
import java.util.Arrays;
import java.util.NoSuchElementException;

/** A weak asker with dice and a giant who may lie, and the games, nets, rooms and books beside them. */
public final class LiarHall {
    public static final int NONE = -1;

    private static final int NO_SUCH_SORT = -2;
    private static final int MOST_NAMES = 6;
    private static final int MOST_BYTES = 200;
    // Two NAMES have a sign between them, so that half of the bytes are NAMES at most.
    private static final int MOST_STEEP = 100;
    private static final int MOST_SAYINGS = 20;
    private static final int MOST_TEXTS = 12;
    private static final int MOST_TALKS = 12;
    private static final int MOST_NETS = 12;
    private static final int MOST_Y = 1000000;
    private static final int MOST_TRIES = 200;
    private static final int MOST_ROWS = 2000;
    private static final int MOST_M = 1000000;
    private static final int MOST_ROUNDS = 30;
    private static final int LAST_SMALL = 1000;
    private static final int LAST_NUMBER = 1000000007;
    private static final String LETTERS = "tcwlijnpyk";
    private static final long FACTOR = 6364136223846793005L;
    private static final long ADDEND = 1442695040888963407L;

    private final Tape tape = new Tape();
    private final SayingReader sayingReader = new SayingReader(tape);
    private final TextReader lawReader = new TextReader(tape, "cde", "inkp");
    private final TextReader giantReader = new TextReader(tape, "sv", "tcwlijnpy");
    private final Reckoner reckoner = new Reckoner();
    private final Asker asker = new Asker(reckoner);
    private final Course latestCourse = new Course(reckoner, asker);
    // TRIES and ODDS go through talks too, and the latest run is to stay as it was.
    private final Course trialCourse = new Course(reckoner, asker);
    private final ArrayList<Saying> sayings = new ArrayList<>();
    private final ArrayList<Text> laws = new ArrayList<>();
    private final ArrayList<Text> giants = new ArrayList<>();
    private final ArrayList<Talk> talks = new ArrayList<>();
    private final ArrayList<Net> nets = new ArrayList<>();
    private final int[] laidNumbers = new int[MOST_NAMES];
    private final int[] shuffled = new int[Net.MOST_POINTS];
    private int laid;

    public LiarHall() {
        laid = 0;
    }

    public int feed(int a, int b, int c, int d, int e) {
        int more = Tape.signsIn(a) + Tape.signsIn(b) + Tape.signsIn(c) + Tape.signsIn(d) + Tape.signsIn(e);
        if (tape.length + more > MOST_BYTES) {
            return NONE;
        }
        tape.append(a);
        tape.append(b);
        tape.append(c);
        tape.append(d);
        tape.append(e);
        return tape.length;
    }

    public boolean end(int n) {
        if (n < 0 || n > tape.length) {
            return false;
        }
        tape.length = n;
        return true;
    }

    public int fault(int sort) {
        switch (sort) {
            case 0:
                return sayingReader.read();
            case 1:
                return lawReader.read();
            case 2:
                return giantReader.read();
            default:
                return NO_SUCH_SORT;
        }
    }

    public int saying() {
        if (sayings.size() >= MOST_SAYINGS || sayingReader.read() != NONE) {
            return NONE;
        }
        Saying told = new Saying(tape.writtenCode());
        told.corners = (int) reckoner.overCorners(told, 0, LAST_NUMBER);
        sayings.add(told);
        tape.length = 0;
        return sayings.size() - 1;
    }

    public int said(int saying, int what) {
        Saying told = sayingAt(saying);
        if (told == null) {
            return NONE;
        }
        switch (what) {
            case 0:
                return told.names;
            case 1:
                return told.work;
            case 2:
                return told.corners;
            default:
                return what < 3 || what > 2 + MOST_NAMES ? NONE : told.steepOf(what - 3);
        }
    }

    public int truth(int saying, int corner) {
        Saying told = sayingAt(saying);
        if (told == null || corner < 0 || corner >= 1 << MOST_NAMES) {
            return NONE;
        }
        for (int name = 0; name < MOST_NAMES; name++) {
            reckoner.put(name, corner >> name & 1);
        }
        return (int) reckoner.worthOf(told, LAST_NUMBER);
    }

    public int lay(int number) {
        if (number < 0 || laid < 0 || laid >= laidNumbers.length) {
            return NONE;
        }
        laidNumbers[laid] = number;
        laid++;
        return laid - 1;
    }

    public int clear() {
        int many = laid;
        laid = 0;
        return many;
    }

    public int worth(int saying, int prime) {
        Saying told = sayingAt(saying);
        if (told == null || !isModulus(prime) || laid < told.names) {
            return NONE;
        }
        putPoint(prime);
        return (int) reckoner.worthOf(told, prime);
    }

    public int sum(int saying, int prime) {
        Saying told = sayingAt(saying);
        if (told == null || !isModulus(prime)) {
            return NONE;
        }
        putPoint(prime);
        return (int) reckoner.overCorners(told, laid, prime);
    }

    public boolean prime(int number) {
        return Reckoner.isPrime(number);
    }

    public int curve(int prime, int x) {
        if (!isModulus(prime) || laid < 1 || laid >= prime || x < 0) {
            return NONE;
        }
        putPoint(prime);
        return (int) reckoner.curveAt(reckoner.corner, laid, prime, Reckoner.rest(x, prime));
    }

    public int law() {
        return keepText(laws, lawReader);
    }

    public int giant() {
        return keepText(giants, giantReader);
    }

    public int talk(int saying, int prime, int law, int giant) {
        Saying told = sayingAt(saying);
        Text asked = textAt(laws, law);
        Text liar = textAt(giants, giant);
        if (told == null || asked == null || liar == null || talks.size() >= MOST_TALKS) {
            return NONE;
        }
        if (!isModulus(prime) || prime <= told.mostSteep()) {
            return NONE;
        }
        talks.add(new Talk(told, prime, asked, liar));
        return talks.size() - 1;
    }

    public int run(int talk, long seed, int y) {
        Talk held = talkAt(talk);
        if (held == null || !isOwnNumber(y)) {
            return NONE;
        }
        return latestCourse.goByDraws(held, seed, y) ? 1 : 0;
    }

    public int fixed(int talk, int y) {
        Talk held = talkAt(talk);
        if (held == null || !isOwnNumber(y)) {
            return NONE;
        }
        return latestCourse.goFixed(held, y) ? 1 : 0;
    }

    public int latest(int what) {
        if (latestCourse.talk == null) {
            return NONE;
        }
        switch (what) {
            case 0:
                return (int) latestCourse.firstClaim;
            case 1:
                return latestCourse.gaveUp;
            case 2:
                return (int) latestCourse.claim;
            case 3:
                return latestCourse.drawn;
            default:
                return NONE;
        }
    }

    public int value(int round, int j) throws NoSuchElementException {
        if (!latestCourse.hasSaid(round, j)) {
            throw new NoSuchElementException("no such value was said");
        }
        return (int) latestCourse.saidAt(round, j);
    }

    public int draw(int round) {
        return latestCourse.drawOf(round);
    }

    public int tries(int talk, int many) {
        Talk held = talkAt(talk);
        if (held == null || many < 1 || many > MOST_TRIES) {
            return NONE;
        }
        for (int y = 0; y < many; y++) {
            if (trialCourse.goFixed(held, y)) {
                return y;
            }
        }
        return NONE;
    }

    public int spent(int talk, int what) {
        Talk held = talkAt(talk);
        if (held == null || what < 0 || what > 1) {
            return NONE;
        }
        Saying told = held.saying;
        if (what == 1) {
            return told.work << told.names;
        }
        asker.sit(told, held.law, held.prime);
        int total = asker.asksAtEnd() ? told.work : 0;
        for (int round = 0; round < told.names; round++) {
            int values = told.steepOf(round) + 1;
            total += 2 * values * values + (asker.asksForSum(round) ? 1 : 0);
        }
        return total;
    }

    public int odds(int talk, int y, int what) {
        Talk held = talkAt(talk);
        if (held == null || !isOwnNumber(y) || what < 0 || what > 1) {
            return NONE;
        }
        asker.sit(held.saying, held.law, held.prime);
        int rows = asker.allRows();
        if (rows == NONE || what == 1) {
            return rows;
        }
        trialCourse.open(held, y);
        return trialCourse.believedFrom(held, 0);
    }

    public long best(int talk, int what) {
        Talk held = talkAt(talk);
        if (held == null) {
            return NONE;
        }
        asker.sit(held.saying, held.law, held.prime);
        return asker.tellsBest() ? asker.fraction(what) : NONE;
    }

    public long bound(int talk, int what) {
        Talk held = talkAt(talk);
        if (held == null) {
            return NONE;
        }
        asker.sit(held.saying, held.law, held.prime);
        return asker.tellsBound() ? asker.fraction(what) : NONE;
    }

    public int roots(int talk, int round) {
        Talk held = talkAt(talk);
        if (held == null || round < 0 || round >= held.saying.names) {
            return NONE;
        }
        asker.sit(held.saying, held.law, held.prime);
        // m is a part of BEST, and BEST is told of the TALK as a whole.
        return asker.tellsBest() ? asker.mostRoots(round) : NONE;
    }

    public int small(int saying, int law, int m) {
        Saying told = sayingAt(saying);
        Text asked = textAt(laws, law);
        if (told == null || asked == null || m < 1 || m > MOST_M) {
            return NONE;
        }
        for (int number = Math.max(2, told.mostSteep()) + 1; number <= LAST_SMALL; number++) {
            if (isModulus(number)) {
                asker.sit(told, asked, number);
                if (asker.tellsBest() && asker.isAtMostOneBy(m)) {
                    return number;
                }
            }
        }
        return NONE;
    }

    public int won(int saying, int turns) {
        Saying told = sayingAt(saying);
        if (told == null || !areTurns(turns)) {
            return NONE;
        }
        return (int) reckoner.gameWorth(told, turns, LAST_NUMBER, 0);
    }

    public int game(int saying, int turns, int prime) {
        Saying told = sayingAt(saying);
        if (told == null || !areTurns(turns) || !isModulus(prime)) {
            return NONE;
        }
        putPoint(prime);
        return (int) reckoner.gameWorth(told, turns, prime, Math.min(laid, told.names));
    }

    public int steep(int saying, int name, int k, boolean low) {
        Saying told = sayingAt(saying);
        if (told == null || name < 0 || name >= told.names || k < 0 || k > told.names) {
            return NONE;
        }
        int steepness = told.steepOf(name);
        int folds = told.names - Math.max(name + 1, k);
        if (folds <= 0 || steepness == 0) {
            return steepness;
        }
        return low ? 2 : steepness << folds;
    }

    public int net(int points, int edges) {
        if (nets.size() >= MOST_NETS || points < 2 || points > Net.MOST_POINTS) {
            return NONE;
        }
        if (edges < 0 || edges >= 1 << points * (points - 1) / 2) {
            return NONE;
        }
        nets.add(new Net(points, edges));
        return nets.size() - 1;
    }

    public int alike(int one, int other) {
        Net first = netAt(one);
        Net second = netAt(other);
        if (first == null || second == null) {
            return NONE;
        }
        return first.isAlike(second, shuffled) ? 1 : 0;
    }

    public int shuffle(int one, int other, int point) {
        Net first = netAt(one);
        Net second = netAt(other);
        if (first == null || second == null || point < 0 || point >= first.points) {
            return NONE;
        }
        return point < shuffled.length && first.isAlike(second, shuffled) ? shuffled[point] : NONE;
    }

    public int unlike(int one, int other, long seed, int rounds) {
        Net first = netAt(one);
        Net second = netAt(other);
        if (first == null || second == null || one == other || first.points != second.points) {
            return NONE;
        }
        if (rounds < 1 || rounds > MOST_ROUNDS) {
            return NONE;
        }
        boolean alike = first.isAlike(second, shuffled);
        // Of two that are ALIKE the giant tells the NET of the lower number, also where that is the one told second.
        int told = one < other ? 0 : 1;
        long x = seed;
        int right = 0;
        for (int round = 0; round < rounds; round++) {
            x = x * FACTOR + ADDEND;
            if (!alike || (x >>> 33 & 1) == told) {
                right++;
            }
        }
        return right;
    }

    public int rooms(long table, int what) {
        if (table < 0 || table >= 1L << Tables.AGREEMENTS || what < 0 || what > 1) {
            return NONE;
        }
        return what == 0 ? Tables.mostTales(table) : Tables.mostByWord(table);
    }

    public int book(int k, int bits, int what) {
        if (!Tables.isBook(k, bits)) {
            return NONE;
        }
        switch (what) {
            case 0:
                return Tables.pairsCaught(k, bits) == 0 ? 1 : 0;
            case 1:
                return Tables.pairsCaught(k, bits);
            case 2:
                return Integer.bitCount(Tables.nearestLinear(k, bits) ^ bits);
            case 3:
                return Tables.nearestLinear(k, bits);
            default:
                return NONE;
        }
    }

    public int mended(int k, int bits, int place) {
        if (!Tables.isBook(k, bits) || place < 0 || place >= 1 << k) {
            return NONE;
        }
        return Tables.mendedCell(k, bits, place);
    }

    public int least(int k, int what) {
        if (k < 1 || k > Tables.MOST_LEAST_K || what < 0 || what > 1) {
            return NONE;
        }
        int found = Tables.leastCaughtBook(k);
        return what == 1 || found == NONE ? found : Tables.pairsCaught(k, found);
    }

    public int count(int what) {
        switch (what) {
            case 0:
                return sayings.size();
            case 1:
                return laws.size();
            case 2:
                return giants.size();
            case 3:
                return talks.size();
            case 4:
                return nets.size();
            case 5:
                return laid;
            case 6:
                return tape.length;
            default:
                return NONE;
        }
    }

    private Saying sayingAt(int number) {
        return number < 0 || number >= sayings.size() ? null : sayings.get(number);
    }

    private Talk talkAt(int number) {
        return number < 0 || number >= talks.size() ? null : talks.get(number);
    }

    private Net netAt(int number) {
        return number < 0 || number >= nets.size() ? null : nets.get(number);
    }

    private static Text textAt(ArrayList<Text> texts, int number) {
        return number < 0 || number >= texts.size() ? null : texts.get(number);
    }

    private int keepText(ArrayList<Text> texts, TextReader reader) {
        if (texts.size() >= MOST_TEXTS || reader.read() != NONE) {
            return NONE;
        }
        texts.add(new Text(tape.writtenCode()));
        tape.length = 0;
        return texts.size() - 1;
    }

    private static boolean isModulus(int number) {
        return number > 2 && Reckoner.isPrime(number);
    }

    private static boolean isOwnNumber(int y) {
        return y >= 0 && y <= MOST_Y;
    }

    private static boolean areTurns(int turns) {
        return turns >= 0 && turns < 1 << MOST_NAMES;
    }

    private void putPoint(int modulus) {
        for (int name = 0; name < laid && name < laidNumbers.length; name++) {
            reckoner.put(name, Reckoner.rest(laidNumbers[name], modulus));
        }
    }

    /** The bytes told, and the code written while they are read. */
    private static final class Tape {
        static final int END = 0;
        // A label and its : are written as three numbers; every other byte as one at most.
        private static final int MOST_CODE = 2 * MOST_BYTES;

        private final int[] bytes = new int[MOST_BYTES];
        private final int[] code = new int[MOST_CODE];
        private int length;
        private int at;
        private int faultAt;
        private int written;

        static int signsIn(int number) {
            int many = 0;
            for (int shift = 24; shift >= 0; shift -= 8) {
                if ((number >>> shift & 255) != 0) {
                    many++;
                }
            }
            return many;
        }

        void append(int number) {
            for (int shift = 24; shift >= 0; shift -= 8) {
                int sign = number >>> shift & 255;
                if (sign != 0 && length >= 0 && length < bytes.length) {
                    bytes[length] = sign;
                    length++;
                }
            }
        }

        void begin() {
            at = 0;
            written = 0;
            faultAt = NONE;
        }

        /** The byte at which the reading stands; no byte told is 0, so that END is none of them. */
        int here() {
            return at >= 0 && at < length && at < bytes.length ? bytes[at] : END;
        }

        /** The next byte that is not a blank. */
        int next() {
            for (int place = Math.max(0, at); place < length && place < bytes.length; place++) {
                if (bytes[place] != ' ') {
                    at = place;
                    return bytes[place];
                }
            }
            at = length;
            return END;
        }

        void step() {
            at++;
        }

        boolean take(int sign) {
            if (next() != sign) {
                return false;
            }
            at++;
            return true;
        }

        /** What called it ends at once when it answers false, so that no later FAULT is found. */
        boolean expect(int sign) {
            if (next() != sign) {
                faultAt = at;
                return false;
            }
            at++;
            return true;
        }

        boolean expectEnd() {
            return next() == END || fail();
        }

        boolean fail() {
            faultAt = at;
            return false;
        }

        void write(int item) {
            if (written >= 0 && written < code.length) {
                code[written] = item;
                written++;
            }
        }

        void rewrite(int place, int item) {
            if (place >= 0 && place < code.length) {
                code[place] = item;
            }
        }

        int[] writtenCode() {
            return Arrays.copyOf(code, Math.max(0, Math.min(written, code.length)));
        }
    }

    /** Reads the TAPE as a SAYING and writes it with each sign behind what it works on. */
    private static final class SayingReader {
        private static final int DEEPEST = 8;

        private final Tape text;

        SayingReader(Tape text) {
            this.text = text;
        }

        int read() {
            text.begin();
            return ands(0) && text.expectEnd() ? NONE : text.faultAt;
        }

        private boolean ands(int depth) {
            if (!units(depth)) {
                return false;
            }
            for (int left = MOST_BYTES; left > 0 && text.take('|'); left--) {
                if (!units(depth)) {
                    return false;
                }
                text.write(Saying.OR);
            }
            return true;
        }

        private boolean units(int depth) {
            if (!unit(depth)) {
                return false;
            }
            for (int left = MOST_BYTES; left > 0 && text.take('&'); left--) {
                if (!unit(depth)) {
                    return false;
                }
                text.write(Saying.AND);
            }
            return true;
        }

        private boolean unit(int depth) {
            int sign = text.next();
            if (sign == '!' || sign == '(') {
                return depth < DEEPEST ? inner(sign, depth + 1) : text.fail();
            }
            if (sign < 'a' || sign >= 'a' + MOST_NAMES) {
                return text.fail();
            }
            text.step();
            text.write(sign - 'a');
            return true;
        }

        private boolean inner(int sign, int depth) {
            text.step();
            if (sign == '(') {
                return ands(depth) && text.expect(')');
            }
            if (!unit(depth)) {
                return false;
            }
            text.write(Saying.NOT);
            return true;
        }
    }

    /** Reads the TAPE as a LAW or a GIANT and writes its clauses, each behind its label and two lengths. */
    private static final class TextReader {
        private static final int DEEPEST = 6;
        private static final int MOST_DIGITS = 4;

        private final Tape text;
        private final String labels;
        private final String letters;

        TextReader(Tape text, String labels, String letters) {
            this.text = text;
            this.labels = labels;
            this.letters = letters;
        }

        int read() {
            text.begin();
            boolean going = clause();
            for (int left = MOST_BYTES; left > 0 && going && text.take(';'); left--) {
                going = clause();
            }
            return going && text.expectEnd() ? NONE : text.faultAt;
        }

        private boolean clause() {
            int label = text.next();
            if (labels.indexOf((char) label) < 0) {
                return text.fail();
            }
            text.step();
            int head = text.written;
            text.write(label);
            text.write(0);
            text.write(0);
            int body = text.written;
            if (!text.expect(':') || !opening()) {
                return false;
            }
            // What was read is the CONDITION if a ? follows; only behind a CONDITION may it, and must it.
            if (text.take('?')) {
                text.rewrite(head + 1, text.written - body);
                body = text.written;
                if (!total(0)) {
                    return false;
                }
            }
            text.rewrite(head + 2, text.written - body);
            return true;
        }

        /** What follows a label: a SUM alone if the clause may end behind it, else a CONDITION with its ? ahead. */
        private boolean opening() {
            int sign = text.next();
            if (sign == '!' || sign == '(') {
                return condition(0, false) && standsAtMark();
            }
            if (!total(0)) {
                return false;
            }
            if (isComparison(text.next())) {
                return condition(0, true) && standsAtMark();
            }
            return text.next() != '?' || text.fail();
        }

        private boolean standsAtMark() {
            return text.next() == '?' || text.fail();
        }

        /** Of a begun condition the first SUM has been read already. */
        private boolean condition(int depth, boolean begun) {
            if (!part(depth, begun)) {
                return false;
            }
            for (int left = MOST_BYTES; left > 0 && text.take('|'); left--) {
                if (!part(depth, false)) {
                    return false;
                }
                text.write(Text.SIGN + '|');
            }
            return true;
        }

        private boolean part(int depth, boolean begun) {
            if (!unit(depth, begun)) {
                return false;
            }
            for (int left = MOST_BYTES; left > 0 && text.take('&'); left--) {
                if (!unit(depth, false)) {
                    return false;
                }
                text.write(Text.SIGN + '&');
            }
            return true;
        }

        private boolean unit(int depth, boolean begun) {
            if (begun) {
                return comparison(depth);
            }
            int sign = text.next();
            if (sign == '!' || sign == '(') {
                return depth < DEEPEST ? inner(sign, depth + 1) : text.fail();
            }
            return total(depth) && comparison(depth);
        }

        private boolean inner(int sign, int depth) {
            text.step();
            if (sign == '(') {
                return condition(depth, false) && text.expect(')');
            }
            if (!unit(depth, false)) {
                return false;
            }
            text.write(Text.SIGN + '!');
            return true;
        }

        private boolean comparison(int depth) {
            int sign = text.next();
            if (!isComparison(sign)) {
                return text.fail();
            }
            text.step();
            if (!total(depth)) {
                return false;
            }
            text.write(Text.SIGN + sign);
            return true;
        }

        private static boolean isComparison(int sign) {
            return sign == '=' || sign == '<' || sign == '>';
        }

        private boolean total(int depth) {
            if (!term(depth)) {
                return false;
            }
            for (int left = MOST_BYTES; left > 0 && (text.next() == '+' || text.next() == '-'); left--) {
                int sign = text.next();
                text.step();
                if (!term(depth)) {
                    return false;
                }
                text.write(Text.SIGN + sign);
            }
            return true;
        }

        private boolean term(int depth) {
            if (!atom(depth)) {
                return false;
            }
            for (int left = MOST_BYTES; left > 0 && (text.next() == '*' || text.next() == '/'); left--) {
                int sign = text.next();
                text.step();
                if (!atom(depth)) {
                    return false;
                }
                text.write(Text.SIGN + sign);
            }
            return true;
        }

        private boolean atom(int depth) {
            int sign = text.next();
            if (sign == '[') {
                if (depth >= DEEPEST) {
                    return text.fail();
                }
                text.step();
                return total(depth + 1) && text.expect(']');
            }
            if (isDigit(sign)) {
                return number();
            }
            if (letters.indexOf((char) sign) < 0) {
                return text.fail();
            }
            text.step();
            text.write(Text.LETTER + LETTERS.indexOf((char) sign));
            return true;
        }

        /** A fifth digit is left standing: nothing can go on with it. */
        private boolean number() {
            int number = 0;
            for (int digits = 0; digits < MOST_DIGITS && isDigit(text.here()); digits++) {
                number = number * 10 + text.here() - '0';
                text.step();
            }
            text.write(number);
            return true;
        }

        private static boolean isDigit(int sign) {
            return sign >= '0' && sign <= '9';
        }
    }

    /** A SAYING: NAMES as 0 .. 5, and its signs behind what they work on. */
    private static final class Saying {
        static final int NOT = MOST_NAMES;
        static final int AND = MOST_NAMES + 1;
        static final int OR = MOST_NAMES + 2;

        private final int[] code;
        private final int[] steeps = new int[MOST_NAMES];
        private final int names;
        private final int work;
        private int corners;

        Saying(int[] code) {
            this.code = code;
            int greatest = NONE;
            int signs = 0;
            for (int item : code) {
                if (item >= 0 && item < steeps.length) {
                    steeps[item]++;
                    greatest = Math.max(greatest, item);
                } else {
                    signs++;
                }
            }
            names = greatest + 1;
            work = signs;
        }

        int steepOf(int name) {
            return name < 0 || name >= steeps.length ? 0 : steeps[name];
        }

        int mostSteep() {
            int most = 0;
            for (int steepness : steeps) {
                most = Math.max(most, steepness);
            }
            return most;
        }
    }

    /** A LAW or a GIANT: clauses, each a label, the lengths of its CONDITION and its SUM, and these. */
    private static final class Text {
        static final int HEAD = 3;
        // Numbers of four digits stand as they are, so that letters begin behind them.
        static final int LETTER = 10000;
        static final int SIGN = 20000;
        // Places of the letters in LETTERS.
        static final int T = 0;
        static final int C = 1;
        static final int W = 2;
        static final int L = 3;
        static final int I = 4;
        static final int J = 5;
        static final int N = 6;
        static final int P = 7;
        static final int Y = 8;
        static final int K = 9;
        static final int MOST_LETTERS = 10;

        private final int[] code;

        Text(int[] code) {
            this.code = code;
        }
    }

    /** A TALK. */
    private static final class Talk {
        private final Saying saying;
        private final int prime;
        private final Text law;
        private final Text giant;

        Talk(Saying saying, int prime, Text law, Text giant) {
            this.saying = saying;
            this.prime = prime;
            this.law = law;
            this.giant = giant;
        }
    }

    /** Reckons modulo a prime, and the WORTHS of labels; its rows are used again by every call. */
    private static final class Reckoner {
        // Six marks within one another leave five numbers waiting at most at each depth.
        private static final int MOST_WAITING = 64;
        private static final long FURTHEST = 2000000000L;

        private final long[] stack = new long[MOST_WAITING];
        private final long[] corner = new long[MOST_NAMES];
        private final long[] differences = new long[MOST_STEEP + 1];
        private final long[] inverses = new long[MOST_STEEP + 1];

        static long rest(long number, long modulus) {
            return modulus < 1 ? 0 : Math.floorMod(number, modulus);
        }

        static long plus(long a, long b, long modulus) {
            long total = a + b;
            return total >= modulus ? total - modulus : total;
        }

        static long minus(long a, long b, long modulus) {
            return a >= b ? a - b : a - b + modulus;
        }

        /** At corners most factors are 0 or 1, and dividing is the dearest step. */
        static long times(long a, long b, long modulus) {
            return a < 2 || b < 2 || modulus < 1 ? a * b : a * b % modulus;
        }

        /** Miller and Rabin's test by 2, 7 and 61, which is sure for all numbers below 4,759,123,141. */
        static boolean isPrime(int number) {
            if (number < 2 || number > LAST_NUMBER) {
                return false;
            }
            if (number == 2 || number == 7 || number == 61) {
                return true;
            }
            return number % 2 != 0 && passes(2, number) && passes(7, number) && passes(61, number);
        }

        private static boolean passes(int base, int number) {
            int odd = number - 1;
            int twos = 0;
            for (; odd > 0 && odd % 2 == 0; odd /= 2) {
                twos++;
            }
            long power = 1;
            long square = rest(base, number);
            for (; odd > 0; odd /= 2) {
                if (odd % 2 == 1) {
                    power = times(power, square, number);
                }
                square = times(square, square, number);
            }
            if (power == 1) {
                return true;
            }
            for (int step = 0; step < twos; step++) {
                if (power == number - 1) {
                    return true;
                }
                power = times(power, power, number);
            }
            return false;
        }

        void put(int name, long number) {
            if (name >= 0 && name < corner.length) {
                corner[name] = number;
            }
        }

        /** WORTH of a SAYING at the numbers that were put. */
        long worthOf(Saying saying, long modulus) {
            int top = 0;
            for (int item : saying.code) {
                if (item >= 0 && item < corner.length) {
                    if (top < stack.length) {
                        stack[top] = corner[item];
                        top++;
                    }
                } else if (item == Saying.NOT) {
                    if (top > 0) {
                        stack[top - 1] = minus(1, stack[top - 1], modulus);
                    }
                } else if (top > 1) {
                    top--;
                    long u = stack[top - 1];
                    long v = stack[top];
                    long product = times(u, v, modulus);
                    stack[top - 1] = item == Saying.AND ? product : minus(plus(u, v, modulus), product, modulus);
                }
            }
            return top > 0 ? stack[top - 1] : 0;
        }

        /** The sum of WORTHS over all corners of the NAMES behind the first so many. */
        long overCorners(Saying saying, int many, long modulus) {
            int free = Math.max(0, saying.names - many);
            long total = 0;
            for (int bits = 0; bits < 1 << free; bits++) {
                for (int name = 0; name < free; name++) {
                    put(many + name, bits >> name & 1);
                }
                total = plus(total, worthOf(saying, modulus), modulus);
            }
            return total;
        }

        /** VALUE of a GAME of which so many NAMES are played and put. */
        private long gameWorth(Saying saying, int turns, long modulus, int played) {
            if (played >= saying.names || played >= MOST_NAMES) {
                return worthOf(saying, modulus);
            }
            put(played, 0);
            long low = gameWorth(saying, turns, modulus, played + 1);
            put(played, 1);
            long high = gameWorth(saying, turns, modulus, played + 1);
            long product = times(low, high, modulus);
            return (turns >> played & 1) == 1 ? product : minus(plus(low, high, modulus), product, modulus);
        }

        /** Newton's way: the differences at 0, each times its binomial of x. No more values than the modulus. */
        long curveAt(long[] values, int many, long modulus, long x) {
            int size = Math.min(many, Math.min(values.length, differences.length));
            if (x >= 0 && x < size) {
                return values[(int) x];
            }
            for (int i = 0; i < size; i++) {
                differences[i] = values[i];
            }
            fillInverses(size, modulus);
            long total = 0;
            long binomial = 1;
            for (int order = 0; order < size; order++) {
                total = plus(total, times(binomial, differences[0], modulus), modulus);
                for (int i = 0; i + 1 < size - order; i++) {
                    differences[i] = minus(differences[i + 1], differences[i], modulus);
                }
                if (order + 1 < size) {
                    binomial = times(binomial, rest(x - order, modulus), modulus);
                    binomial = times(binomial, inverses[order + 1], modulus);
                }
            }
            return total;
        }

        /** i times the inverse of (modulus modulo i) is known from (modulus by i), which is lower than i. */
        private void fillInverses(int size, long modulus) {
            for (int i = 1; i < size && i < inverses.length; i++) {
                int lower = (int) rest(modulus, i);
                inverses[i] = i == 1 || lower >= i ? 1 : times(modulus - modulus / i, inverses[lower], modulus);
            }
        }

        /** WORTH of a LABEL: 0 without a clause whose CONDITION holds. */
        long labelWorth(Text text, int label, long[] letters) {
            int[] code = text.code;
            int at = 0;
            for (int left = code.length; left > 0 && at >= 0 && at + Text.HEAD <= code.length; left--) {
                int body = at + Text.HEAD;
                int condition = code[at + 1];
                int total = code[at + 2];
                if (code[at] == label && (condition == 0 || reckoned(code, body, condition, letters) != 0)) {
                    return reckoned(code, body + condition, total, letters);
                }
                at = body + condition + total;
            }
            return 0;
        }

        /** A CONDITION is worth 1 or 0, so that & and | of bits join its parts. */
        private long reckoned(int[] code, int from, int many, long[] letters) {
            int top = 0;
            for (int at = Math.max(0, from); at < from + many && at < code.length; at++) {
                int item = code[at];
                if (item < Text.SIGN) {
                    if (top < stack.length) {
                        stack[top] = item < Text.LETTER ? item : letterWorth(item - Text.LETTER, letters);
                        top++;
                    }
                } else if (item == Text.SIGN + '!') {
                    if (top > 0) {
                        stack[top - 1] = 1 - stack[top - 1];
                    }
                } else if (top > 1) {
                    top--;
                    stack[top - 1] = worked(item - Text.SIGN, stack[top - 1], stack[top]);
                }
            }
            return top > 0 ? stack[top - 1] : 0;
        }

        private static long letterWorth(int letter, long[] letters) {
            return letter < 0 || letter >= letters.length ? 0 : letters[letter];
        }

        private static long worked(int sign, long a, long b) {
            switch (sign) {
                case '+':
                    return Math.max(-FURTHEST, Math.min(FURTHEST, a + b));
                case '-':
                    return Math.max(-FURTHEST, Math.min(FURTHEST, a - b));
                case '*':
                    return Math.max(-FURTHEST, Math.min(FURTHEST, a * b));
                case '/':
                    return b == 0 ? 0 : a / b;
                case '=':
                    return a == b ? 1 : 0;
                case '<':
                    return a < b ? 1 : 0;
                case '>':
                    return a > b ? 1 : 0;
                case '&':
                    return a & b;
                default:
                    return a | b;
            }
        }
    }

    /** What a LAW asks for about a SAYING by a PRIME, and the odds that follow of it. */
    private static final class Asker {
        private static final int MOST_DICE = 1000;
        private static final long MOST_PRODUCT = 1000000000000000L;

        private final Reckoner reckoner;
        private final long[] letters = new long[Text.MOST_LETTERS];
        private Saying saying;
        private Text law;
        private int modulus;
        private long upper;
        private long lower;

        Asker(Reckoner reckoner) {
            this.reckoner = reckoner;
        }

        void sit(Saying saying, Text law, int modulus) {
            this.saying = saying;
            this.law = law;
            this.modulus = modulus;
        }

        boolean asksForSum(int round) {
            return lawWorth('c', round) != 0;
        }

        boolean asksAtEnd() {
            return lawWorth('e', rounds()) != 0;
        }

        int dice(int round) {
            return (int) Math.max(1, Math.min(modulus, lawWorth('d', round)));
        }

        private int rounds() {
            return saying == null ? 0 : saying.names;
        }

        private int steepOf(int round) {
            return saying == null ? 0 : saying.steepOf(round);
        }

        private long lawWorth(int label, int round) {
            if (law == null) {
                return 0;
            }
            letters[Text.I] = round;
            letters[Text.N] = rounds();
            letters[Text.P] = modulus;
            letters[Text.K] = round < rounds() ? steepOf(round) : 0;
            return reckoner.labelWorth(law, label, letters);
        }

        /** The product of all D; NONE if there are too many rows. */
        int allRows() {
            long rows = 1;
            for (int round = 0; round < rounds(); round++) {
                rows *= dice(round);
                if (rows > MOST_ROWS) {
                    return NONE;
                }
            }
            return (int) rows;
        }

        /** A CURVE with roots at 0, 2, 3, .. has none at 1, and with roots at both 0 and 1 it would sum up to 0. */
        int mostRoots(int round) {
            int dice = dice(round);
            if (!asksForSum(round)) {
                return dice;
            }
            return Math.min(steepOf(round), Math.max(1, dice - 1));
        }

        boolean tellsBest() {
            long missed = 1;
            long all = 1;
            for (int round = 0; round < rounds(); round++) {
                int dice = dice(round);
                if (dice > MOST_DICE || all * dice > MOST_PRODUCT) {
                    return false;
                }
                missed *= dice - mostRoots(round);
                all *= dice;
            }
            setFraction(asksAtEnd() ? all - missed : all, all);
            return true;
        }

        boolean tellsBound() {
            long total = 0;
            long all = 1;
            for (int round = 0; round < rounds(); round++) {
                int dice = dice(round);
                int part = asksForSum(round) ? steepOf(round) : dice;
                if (dice > MOST_DICE || all * dice > MOST_PRODUCT) {
                    return false;
                }
                total = total * dice + part * all;
                all *= dice;
            }
            setFraction(asksAtEnd() ? Math.min(total, all) : all, all);
            return true;
        }

        private void setFraction(long above, long below) {
            long common = below;
            long other = above;
            // Euclid's steps shrink to half every two, so that 200 are more than any two numbers need.
            for (int left = 200; left > 0 && other > 0; left--) {
                long remainder = common % other;
                common = other;
                other = remainder;
            }
            upper = common < 1 ? above : above / common;
            lower = common < 1 ? below : below / common;
        }

        long fraction(int what) {
            if (what == 0) {
                return upper;
            }
            return what == 1 ? lower : NONE;
        }

        /** Divided and not multiplied, because upper times m may go beyond 64 bits. */
        boolean isAtMostOneBy(int m) {
            return m > 0 && upper <= lower / m;
        }
    }

    /** A TALK gone through: what was SAID and drawn. */
    private static final class Course {
        private final Reckoner reckoner;
        private final Asker asker;
        private final long[] letters = new long[Text.MOST_LETTERS];
        private final long[][] values = new long[MOST_NAMES][MOST_STEEP + 1];
        private final long[] draws = new long[MOST_NAMES];
        private final long[] truths = new long[MOST_STEEP + 1];
        // What is true in ROUND 0 is the same in every run of a TALK, and TRIES makes 200.
        private final long[] firstTruths = new long[MOST_STEEP + 1];
        private Talk firstTruthsOf;
        private Talk talk;
        private long firstClaim;
        private long claim;
        private int gaveUp;
        private int drawn;
        private int roundsSaid;
        private long x;

        Course(Reckoner reckoner, Asker asker) {
            this.reckoner = reckoner;
            this.asker = asker;
        }

        boolean goByDraws(Talk held, long seed, int y) {
            open(held, y);
            x = seed;
            for (int round = 0; round < held.saying.names; round++) {
                sayCurve(held, round);
                if (!agrees(held, round)) {
                    gaveUp = round;
                    return false;
                }
                stir(0);
                moveOn(held, round, drawOfDice(asker.dice(round)));
            }
            return believesAtEnd(held);
        }

        boolean goFixed(Talk held, int y) {
            open(held, y);
            x = 1;
            stir(claim);
            for (int round = 0; round < held.saying.names; round++) {
                sayCurve(held, round);
                for (int j = 0; j <= held.saying.steepOf(round); j++) {
                    stir(saidAt(round, j));
                }
                if (!agrees(held, round)) {
                    gaveUp = round;
                    return false;
                }
                moveOn(held, round, drawOfDice(asker.dice(round)));
            }
            return believesAtEnd(held);
        }

        /** By how many rows of DRAWS from a ROUND on it is BELIEVED: only for so few that all can be gone through. */
        private int believedFrom(Talk held, int round) {
            if (round >= held.saying.names || round >= MOST_NAMES) {
                return believesAtEnd(held) ? 1 : 0;
            }
            sayCurve(held, round);
            if (!agrees(held, round)) {
                return 0;
            }
            int dice = asker.dice(round);
            int rows = 0;
            for (int draw = 0; draw < dice && draw < MOST_ROWS; draw++) {
                moveOn(held, round, draw);
                rows += believedFrom(held, round + 1);
            }
            return rows;
        }

        void open(Talk held, int y) {
            asker.sit(held.saying, held.law, held.prime);
            talk = held;
            gaveUp = NONE;
            drawn = 0;
            roundsSaid = 0;
            Arrays.fill(letters, 0);
            long corners = Reckoner.rest(held.saying.corners, held.prime);
            letters[Text.T] = corners;
            letters[Text.C] = corners;
            letters[Text.W] = corners;
            letters[Text.N] = held.saying.names;
            letters[Text.P] = held.prime;
            letters[Text.Y] = y;
            claim = saidBy(held, 's');
            firstClaim = claim;
        }

        private long saidBy(Talk held, int label) {
            return Reckoner.rest(reckoner.labelWorth(held.giant, label, letters), held.prime);
        }

        private void sayCurve(Talk held, int round) {
            long[] row = truthsOf(held, round);
            letters[Text.C] = claim;
            letters[Text.W] = row.length < 2 ? 0 : Reckoner.plus(row[0], row[1], held.prime);
            letters[Text.L] = drawBefore(round);
            letters[Text.I] = round;
            for (int j = 0; j <= held.saying.steepOf(round) && j < row.length; j++) {
                letters[Text.T] = row[j];
                letters[Text.J] = j;
                note(round, j, saidBy(held, 'v'));
            }
            roundsSaid = round + 1;
        }

        private long[] truthsOf(Talk held, int round) {
            if (round == 0 && firstTruthsOf == held) {
                return firstTruths;
            }
            long[] row = round == 0 ? firstTruths : truths;
            for (int name = 0; name < round && name < draws.length; name++) {
                reckoner.put(name, draws[name]);
            }
            int last = Math.max(1, held.saying.steepOf(round));
            for (int j = 0; j <= last && j < row.length; j++) {
                reckoner.put(round, j);
                row[j] = reckoner.overCorners(held.saying, round + 1, held.prime);
            }
            if (round == 0) {
                firstTruthsOf = held;
            }
            return row;
        }

        private long drawBefore(int round) {
            return round < 1 || round > draws.length ? 0 : draws[round - 1];
        }

        private void note(int round, int j, long number) {
            if (round >= 0 && round < values.length && j >= 0 && j < values[round].length) {
                values[round][j] = number;
            }
        }

        /** A CURVE of one value has at 1 what it has at 0. */
        private boolean agrees(Talk held, int round) {
            long atOne = saidAt(round, Math.min(1, held.saying.steepOf(round)));
            return !asker.asksForSum(round) || Reckoner.plus(saidAt(round, 0), atOne, held.prime) == claim;
        }

        private void stir(long number) {
            x = x * FACTOR + ADDEND + number;
        }

        private int drawOfDice(int dice) {
            return dice < 1 ? 0 : (int) ((x >>> 33) % dice);
        }

        private void moveOn(Talk held, int round, int draw) {
            if (round >= 0 && round < draws.length && round < values.length) {
                draws[round] = draw;
                drawn = round + 1;
                claim = reckoner.curveAt(values[round], held.saying.steepOf(round) + 1, held.prime, draw);
            }
        }

        private boolean believesAtEnd(Talk held) {
            if (!asker.asksAtEnd()) {
                return true;
            }
            for (int name = 0; name < draws.length; name++) {
                reckoner.put(name, draws[name]);
            }
            if (reckoner.worthOf(held.saying, held.prime) == claim) {
                return true;
            }
            gaveUp = held.saying.names;
            return false;
        }

        boolean hasSaid(int round, int j) {
            return talk != null && round >= 0 && round < roundsSaid && j >= 0 && j <= talk.saying.steepOf(round);
        }

        long saidAt(int round, int j) {
            if (round < 0 || round >= values.length || j < 0 || j >= values[round].length) {
                return 0;
            }
            return values[round][j];
        }

        int drawOf(int round) {
            return round < 0 || round >= drawn || round >= draws.length ? NONE : (int) draws[round];
        }
    }

    /** A NET. */
    private static final class Net {
        static final int MOST_POINTS = 6;

        private final int points;
        private final int edges;

        Net(int points, int edges) {
            this.points = points;
            this.edges = edges;
        }

        private boolean joins(int one, int other) {
            int high = Math.max(one, other);
            int low = Math.min(one, other);
            return (edges >> high * (high - 1) / 2 + low & 1) == 1;
        }

        /** Puts the SHUFFLE to the other, if they are ALIKE, into the row. */
        boolean isAlike(Net other, int[] row) {
            return points == other.points && goOnFrom(0, 0, other, row);
        }

        /** Places are tried from the least up, so that the first row found is the least. */
        private boolean goOnFrom(int from, int taken, Net other, int[] row) {
            if (from >= points || from >= row.length) {
                return true;
            }
            for (int place = 0; place < points; place++) {
                if ((taken >> place & 1) == 0 && fits(from, place, other, row)) {
                    row[from] = place;
                    if (goOnFrom(from + 1, taken | 1 << place, other, row)) {
                        return true;
                    }
                }
            }
            return false;
        }

        private boolean fits(int from, int place, Net other, int[] row) {
            for (int earlier = 0; earlier < from && earlier < row.length; earlier++) {
                if (joins(earlier, from) != other.joins(row[earlier], place)) {
                    return false;
                }
            }
            return true;
        }
    }

    /** ROOMS and BOOKS, which are bits alone. */
    private static final class Tables {
        static final int AGREEMENTS = 36;
        static final int MOST_LEAST_K = 3;
        private static final int MOST_K = 4;
        private static final int QUESTIONS = 3;
        private static final int ALL_QUESTIONS = 7;

        static int mostTales(long table) {
            int most = 0;
            for (int tale = 0; tale <= ALL_QUESTIONS; tale++) {
                most = Math.max(most, mostAgreeing(table, tale, ALL_QUESTIONS));
            }
            return most;
        }

        /** The second answers alone behind each word, as if it were asked about the questions of that word only. */
        static int mostByWord(long table) {
            int most = 0;
            for (int tale = 0; tale <= ALL_QUESTIONS; tale++) {
                for (int words = 0; words <= ALL_QUESTIONS; words++) {
                    int agreeing = mostAgreeing(table, tale, words) + mostAgreeing(table, tale, ALL_QUESTIONS - words);
                    most = Math.max(most, agreeing);
                }
            }
            return most;
        }

        /** The most pairs with the first's questions told as bits, if the first answers as its tale says. */
        private static int mostAgreeing(long table, int tale, int questions) {
            int total = 0;
            for (int y = 0; y < QUESTIONS; y++) {
                total += Math.max(agreeing(table, tale, questions, y, 0), agreeing(table, tale, questions, y, 1));
            }
            return total;
        }

        private static int agreeing(long table, int tale, int questions, int y, int b) {
            int many = 0;
            for (int x = 0; x < QUESTIONS; x++) {
                int a = tale >> x & 1;
                int place = ((x * QUESTIONS + y) * 2 + a) * 2 + b;
                if ((questions >> x & 1) == 1 && (table >> place & 1) == 1) {
                    many++;
                }
            }
            return many;
        }

        static boolean isBook(int k, int bits) {
            return k >= 1 && k <= MOST_K && bits >= 0 && bits < 1 << (1 << k);
        }

        static int pairsCaught(int k, int bits) {
            int many = 0;
            for (int u = 0; u < 1 << k; u++) {
                for (int v = 0; v < 1 << k; v++) {
                    many += (bits >> (u ^ v) ^ bits >> u ^ bits >> v) & 1;
                }
            }
            return many;
        }

        static int nearestLinear(int k, int bits) {
            int nearest = 0;
            for (int picked = 0; picked < 1 << k; picked++) {
                int linear = linearBook(k, picked);
                int further = Integer.bitCount(linear ^ bits) - Integer.bitCount(nearest ^ bits);
                if (further < 0 || further == 0 && linear < nearest) {
                    nearest = linear;
                }
            }
            return nearest;
        }

        /** A LINEAR book sums up picked bits of the place. */
        private static int linearBook(int k, int picked) {
            int bits = 0;
            for (int u = 0; u < 1 << k; u++) {
                bits |= (Integer.bitCount(u & picked) & 1) << u;
            }
            return bits;
        }

        static int mendedCell(int k, int bits, int place) {
            int unalike = 0;
            for (int v = 0; v < 1 << k; v++) {
                unalike += (bits >> (place ^ v) ^ bits >> v) & 1;
            }
            return 2 * unalike > 1 << k ? 1 : 0;
        }

        static int leastCaughtBook(int k) {
            int found = NONE;
            int fewest = (1 << k) * (1 << k) + 1;
            for (int bits = 0; bits < 1 << (1 << k); bits++) {
                int many = pairsCaught(k, bits);
                if (many > 0 && many < fewest) {
                    fewest = many;
                    found = bits;
                }
            }
            return found;
        }
    }
}
