import java.util.NoSuchElementException;

/** What is refused answers as told and changes nothing: a hall that has refused answers as one that was not asked. */
public final class UnchangedTest {
    private static final Due DUE = new Due();
    private static final long THROWN = Long.MIN_VALUE;
    private static final int LOW = Integer.MIN_VALUE;
    private static final int HIGH = Integer.MAX_VALUE;
    /** No sayings, laws .. at all: what each of these numbers names is refused by every hall. */
    private static final int[] NO_SAYINGS = {LOW, -1, 20, HIGH};
    private static final int[] NO_TWELVES = {LOW, -1, 12, HIGH};
    private static final int[] NO_PRIMES = {LOW, -7, 0, 1, 2, 9, 1000000006, 1000000009, HIGH};

    private interface Call {
        long on(LiarHall hall);
    }

    private interface Maker {
        LiarHall make();
    }

    private final String name;
    private final Maker maker;
    private final String unasked;

    private UnchangedTest(String name, Maker maker) {
        this.name = name;
        this.maker = maker;
        this.unasked = Probe.answers(maker.make());
    }

    public static void main(String[] args) {
        probesNotice();
        UnchangedTest bare = new UnchangedTest("a new hall", LiarHall::new);
        UnchangedTest told = new UnchangedTest("a hall that was told some", UnchangedTest::told);
        UnchangedTest full = new UnchangedTest("a full hall", () -> full(Due.times("a&", 99) + "a "));
        for (UnchangedTest hall : new UnchangedTest[] {bare, told, full}) {
            hall.textsOutOfBounds();
            hall.pointsOutOfBounds();
            hall.talksOutOfBounds();
            hall.runsOutOfBounds();
            hall.oddsOutOfBounds();
            hall.gamesOutOfBounds();
            hall.netsOutOfBounds();
            hall.tablesOutOfBounds();
        }
        bare.nothingTold();
        told.edgesOfWhatIsTold();
        full.fullRooms();
        new UnchangedTest("a full hall with a saying", () -> full("a")).refused("saying", -1, LiarHall::saying);
        new UnchangedTest("a full hall with a law", () -> full("d:1")).refused("law", -1, LiarHall::law);
        new UnchangedTest("a full hall with a giant", () -> full("v:1")).refused("giant", -1, LiarHall::giant);
        for (String text : new String[] {"a", "d:", "v:1?1", "d:1", "v:1", "", "  "}) {
            faultyTapes(text);
        }
        DUE.close("UnchangedTest");
    }

    private static LiarHall told() {
        LiarHall hall = new LiarHall();
        Due.saying(hall, "a|b&!c");
        Due.saying(hall, "d&d&d");
        Due.law(hall, "c:1;e:1;d:p");
        Due.law(hall, "c:1;e:1;d:1009");
        Due.giant(hall, "s:c;v:t+i*[i-1]");
        Due.giant(hall, "s:c;v:i=2?j;v:t");
        Due.giant(hall, "s:c+1;v:t");
        hall.talk(0, 7, 0, 1);
        hall.talk(1, 1009, 1, 0);
        hall.talk(1, 5, 0, 2);
        hall.net(4, 1 | 4 | 32);
        hall.net(4, 2 | 8 | 16);
        hall.net(4, 1 | 2 | 8);
        hall.net(3, 1);
        Due.point(hall, 8, 0, 5);
        hall.run(0, 5, 3);
        Due.tell(hall, "a&");
        return hall;
    }

    private static LiarHall full(String text) {
        LiarHall hall = new LiarHall();
        for (int i = 0; i < 20; i++) {
            Due.saying(hall, i % 2 == 0 ? "a|b&c" : "b&!b");
        }
        for (int i = 0; i < 12; i++) {
            Due.law(hall, i % 2 == 0 ? "c:1;e:1;d:p" : "c:1;d:2");
            Due.giant(hall, i % 2 == 0 ? "s:c;v:t" : "s:1;v:t+y");
            hall.talk(i, 7, i, i);
            hall.net(4, i % 2 == 0 ? 1 | 4 | 32 : 2 | 8 | 16);
        }
        Due.point(hall, 8, 0, 5, 1, 2, 2147483647);
        hall.fixed(2, 3);
        Due.tell(hall, text);
        return hall;
    }

    /** A probe of no use would let every change pass: each change there is shows in it. */
    private static void probesNotice() {
        Call[] changes = {hall -> hall.feed(0x62, 0, 0, 0, 0), hall -> hall.end(1) ? 1 : 0, hall -> hall.lay(3),
            LiarHall::clear, hall -> hall.net(4, 0), hall -> hall.talk(0, 5, 0, 0), hall -> hall.run(0, 6, 3),
            hall -> hall.fixed(0, 3), hall -> Due.saying(hall, "a"), hall -> Due.law(hall, "d:1"),
            hall -> Due.giant(hall, "v:1")};
        String unasked = Probe.answers(told());
        DUE.is("twins answer alike", Probe.answers(told()).equals(unasked), true);
        for (int i = 0; i < changes.length; i++) {
            LiarHall hall = told();
            changes[i].on(hall);
            DUE.is("change " + i + " shows", Probe.answers(hall).equals(unasked), false);
        }
    }

    private static long answered(Call call, LiarHall hall) {
        try {
            return call.on(hall);
        } catch (NoSuchElementException e) {
            return THROWN;
        }
    }

    private void refused(String what, long want, Call call) {
        LiarHall hall = maker.make();
        DUE.is(what + " on " + name, answered(call, hall), want);
        DUE.is(what + " a second time on " + name, answered(call, hall), want);
        DUE.is(what + " changes nothing of " + name, Probe.answers(hall).equals(unasked), true);
    }

    private void none(String what, Call call) {
        refused(what, -1, call);
    }

    /** Promises 3 to 7. */
    private void textsOutOfBounds() {
        for (int n : new int[] {LOW, -1, 201, HIGH}) {
            refused("end " + n, 0, hall -> hall.end(n) ? 1 : 0);
        }
        for (int sort : new int[] {LOW, -1, 3, HIGH}) {
            refused("fault " + sort, -2, hall -> hall.fault(sort));
        }
        for (int saying : NO_SAYINGS) {
            none("said of " + saying, hall -> hall.said(saying, 0));
            none("truth of " + saying, hall -> hall.truth(saying, 0));
        }
        for (int what : new int[] {LOW, -1, 9, HIGH}) {
            none("said " + what, hall -> hall.said(0, what));
        }
        for (int corner : new int[] {LOW, -1, 64, HIGH}) {
            none("truth at " + corner, hall -> hall.truth(0, corner));
        }
        for (int what : new int[] {LOW, -1, 7, HIGH}) {
            none("count " + what, hall -> hall.count(what));
        }
    }

    /** Promises 8 to 13. */
    private void pointsOutOfBounds() {
        none("lay -1", hall -> hall.lay(-1));
        none("lay the least", hall -> hall.lay(LOW));
        for (int saying : NO_SAYINGS) {
            none("worth of " + saying, hall -> hall.worth(saying, 7));
            none("sum of " + saying, hall -> hall.sum(saying, 7));
        }
        for (int prime : NO_PRIMES) {
            none("worth by " + prime, hall -> hall.worth(0, prime));
            none("sum by " + prime, hall -> hall.sum(0, prime));
            none("curve by " + prime, hall -> hall.curve(prime, 0));
        }
        for (int number : new int[] {LOW, -1, 0, 1, 1000000008, 1000000009, HIGH}) {
            refused("prime " + number, 0, hall -> hall.prime(number) ? 1 : 0);
        }
        none("curve at -1", hall -> hall.curve(7, -1));
        none("curve at the least", hall -> hall.curve(7, LOW));
    }

    /** Promise 16. */
    private void talksOutOfBounds() {
        for (int saying : NO_SAYINGS) {
            none("talk of saying " + saying, hall -> hall.talk(saying, 7, 0, 0));
        }
        for (int number : NO_TWELVES) {
            none("talk of law " + number, hall -> hall.talk(0, 7, number, 0));
            none("talk of giant " + number, hall -> hall.talk(0, 7, 0, number));
        }
        for (int prime : NO_PRIMES) {
            none("talk by " + prime, hall -> hall.talk(0, prime, 0, 0));
        }
    }

    /** Promises 17 to 22. */
    private void runsOutOfBounds() {
        for (int talk : NO_TWELVES) {
            none("run of " + talk, hall -> hall.run(talk, 5, 0));
            none("fixed of " + talk, hall -> hall.fixed(talk, 0));
            none("tries of " + talk, hall -> hall.tries(talk, 5));
        }
        for (int y : new int[] {LOW, -1, 1000001, HIGH}) {
            none("run by " + y, hall -> hall.run(0, 5, y));
            none("fixed by " + y, hall -> hall.fixed(0, y));
        }
        for (int many : new int[] {LOW, -1, 0, 201, HIGH}) {
            none("tries of so many: " + many, hall -> hall.tries(0, many));
        }
        for (int what : new int[] {LOW, -1, 4, HIGH}) {
            none("latest " + what, hall -> hall.latest(what));
        }
        for (int round : new int[] {LOW, -1, 6, HIGH}) {
            none("draw " + round, hall -> hall.draw(round));
            refused("value of ROUND " + round, THROWN, hall -> hall.value(round, 0));
        }
        for (int j : new int[] {LOW, -1, 101, HIGH}) {
            refused("value at " + j, THROWN, hall -> hall.value(0, j));
        }
    }

    /** Promises 23 to 28. */
    private void oddsOutOfBounds() {
        for (int talk : NO_TWELVES) {
            none("spent of " + talk, hall -> hall.spent(talk, 0));
            none("odds of " + talk, hall -> hall.odds(talk, 0, 0));
            none("best of " + talk, hall -> hall.best(talk, 0));
            none("bound of " + talk, hall -> hall.bound(talk, 0));
            none("roots of " + talk, hall -> hall.roots(talk, 0));
            none("small of law " + talk, hall -> hall.small(0, talk, 2));
        }
        for (int what : new int[] {LOW, -1, 2, HIGH}) {
            none("spent " + what, hall -> hall.spent(0, what));
            none("odds " + what, hall -> hall.odds(0, 0, what));
            none("best " + what, hall -> hall.best(0, what));
            none("bound " + what, hall -> hall.bound(0, what));
        }
        for (int y : new int[] {LOW, -1, 1000001, HIGH}) {
            none("odds by " + y, hall -> hall.odds(0, y, 0));
            none("all rows by " + y, hall -> hall.odds(0, y, 1));
        }
        for (int round : new int[] {LOW, -1, 6, HIGH}) {
            none("roots of ROUND " + round, hall -> hall.roots(0, round));
        }
        for (int saying : NO_SAYINGS) {
            none("small of saying " + saying, hall -> hall.small(saying, 0, 2));
        }
        for (int m : new int[] {LOW, -1, 0, 1000001, HIGH}) {
            none("small by " + m, hall -> hall.small(0, 0, m));
        }
    }

    /** Promises 29 to 31. */
    private void gamesOutOfBounds() {
        for (int saying : NO_SAYINGS) {
            none("won of " + saying, hall -> hall.won(saying, 0));
            none("game of " + saying, hall -> hall.game(saying, 0, 7));
            none("steep of " + saying, hall -> hall.steep(saying, 0, 0, false));
        }
        for (int turns : new int[] {LOW, -1, 64, HIGH}) {
            none("won by " + turns, hall -> hall.won(0, turns));
            none("game by " + turns, hall -> hall.game(0, turns, 7));
        }
        for (int prime : NO_PRIMES) {
            none("game modulo " + prime, hall -> hall.game(0, 0, prime));
        }
        for (int number : new int[] {LOW, -1, 7, HIGH}) {
            none("steep of NAME " + number, hall -> hall.steep(0, number, 0, true));
            none("steep at " + number, hall -> hall.steep(0, 0, number, false));
        }
    }

    /** Promises 32 to 35. */
    private void netsOutOfBounds() {
        for (int points : new int[] {LOW, -1, 0, 1, 7, HIGH}) {
            none("net of " + points, hall -> hall.net(points, 0));
        }
        for (int edges : new int[] {LOW, -1, 1 << 15, HIGH}) {
            none("net by " + edges, hall -> hall.net(6, edges));
        }
        none("net of two by 2", hall -> hall.net(2, 2));
        for (int net : NO_TWELVES) {
            none("alike of " + net, hall -> hall.alike(net, 0));
            none("alike to " + net, hall -> hall.alike(0, net));
            none("shuffle of " + net, hall -> hall.shuffle(net, 0, 0));
            none("shuffle to " + net, hall -> hall.shuffle(0, net, 0));
            none("unlike of " + net, hall -> hall.unlike(net, 0, 5, 3));
            none("unlike to " + net, hall -> hall.unlike(0, net, 5, 3));
        }
        for (int point : new int[] {LOW, -1, 6, HIGH}) {
            none("shuffle at " + point, hall -> hall.shuffle(0, 0, point));
        }
        for (int rounds : new int[] {LOW, -1, 0, 31, HIGH}) {
            none("unlike by " + rounds, hall -> hall.unlike(0, 1, 5, rounds));
        }
        none("unlike of one and the same", hall -> hall.unlike(0, 0, 5, 3));
    }

    /** Promises 36 to 39. */
    private void tablesOutOfBounds() {
        for (long table : new long[] {Long.MIN_VALUE, -1, 1L << 36, Long.MAX_VALUE}) {
            none("rooms of " + table, hall -> hall.rooms(table, 0));
        }
        for (int what : new int[] {LOW, -1, 2, HIGH}) {
            none("rooms " + what, hall -> hall.rooms(1, what));
            none("least " + what, hall -> hall.least(1, what));
            none("mended at " + what, hall -> hall.mended(1, 1, what));
        }
        for (int k : new int[] {LOW, -1, 0, 5, HIGH}) {
            none("book of " + k, hall -> hall.book(k, 0, 0));
            none("mended of " + k, hall -> hall.mended(k, 0, 0));
            none("least of " + k, hall -> hall.least(k, 0));
        }
        none("least of 4", hall -> hall.least(4, 1));
        for (int bits : new int[] {LOW, -1, 4, HIGH}) {
            none("book of bits " + bits, hall -> hall.book(1, bits, 0));
            none("mended of bits " + bits, hall -> hall.mended(1, bits, 0));
        }
        for (int what : new int[] {LOW, -1, 4, HIGH}) {
            none("book " + what, hall -> hall.book(1, 0, what));
        }
    }

    /** Where nothing is told, 0 names nothing. */
    private void nothingTold() {
        none("saying of an empty TAPE", LiarHall::saying);
        none("law of an empty TAPE", LiarHall::law);
        none("giant of an empty TAPE", LiarHall::giant);
        refused("end 1", 0, hall -> hall.end(1) ? 1 : 0);
        none("said", hall -> hall.said(0, 0));
        none("truth", hall -> hall.truth(0, 0));
        none("worth", hall -> hall.worth(0, 7));
        none("sum", hall -> hall.sum(0, 7));
        none("curve", hall -> hall.curve(7, 0));
        none("talk", hall -> hall.talk(0, 7, 0, 0));
        none("run", hall -> hall.run(0, 5, 0));
        none("fixed", hall -> hall.fixed(0, 0));
        for (int what = 0; what < 4; what++) {
            int asked = what;
            none("latest " + what, hall -> hall.latest(asked));
        }
        refused("value", THROWN, hall -> hall.value(0, 0));
        none("draw", hall -> hall.draw(0));
        none("tries", hall -> hall.tries(0, 5));
        none("spent", hall -> hall.spent(0, 1));
        none("odds", hall -> hall.odds(0, 0, 1));
        none("best", hall -> hall.best(0, 1));
        none("bound", hall -> hall.bound(0, 1));
        none("roots", hall -> hall.roots(0, 0));
        none("small", hall -> hall.small(0, 0, 1));
        none("won", hall -> hall.won(0, 0));
        none("game", hall -> hall.game(0, 0, 7));
        none("steep", hall -> hall.steep(0, 0, 0, true));
        none("alike", hall -> hall.alike(0, 0));
        none("shuffle", hall -> hall.shuffle(0, 0, 0));
        none("unlike", hall -> hall.unlike(0, 1, 5, 3));
    }

    /** The first beyond each edge of told(). */
    private void edgesOfWhatIsTold() {
        refused("end 3 of 2", 0, hall -> hall.end(3) ? 1 : 0);
        none("saying of a FAULT", LiarHall::saying);
        none("law of a FAULT", LiarHall::law);
        none("giant of a FAULT", LiarHall::giant);
        none("said of 2", hall -> hall.said(2, 0));
        none("truth of 2", hall -> hall.truth(2, 0));
        none("fewer numbers than NAMES", hall -> hall.worth(1, 7));
        none("worth of 2", hall -> hall.worth(2, 7));
        none("sum of 2", hall -> hall.sum(2, 7));
        none("as many as the PRIME", hall -> hall.curve(3, 0));
        none("PRIME as a STEEP", hall -> hall.talk(1, 3, 0, 0));
        none("saying 2", hall -> hall.talk(2, 7, 0, 0));
        none("law 2", hall -> hall.talk(0, 7, 2, 0));
        none("giant 3", hall -> hall.talk(0, 7, 0, 3));
        none("run of 3", hall -> hall.run(3, 5, 0));
        none("fixed of 3", hall -> hall.fixed(3, 0));
        none("tries of 3", hall -> hall.tries(3, 1));
        none("no y is BELIEVED", hall -> hall.tries(2, 200));
        none("no draw where it gave up", hall -> hall.draw(2));
        refused("a value beyond STEEP", THROWN, hall -> hall.value(1, 2));
        refused("a ROUND behind all", THROWN, hall -> hall.value(3, 0));
        none("spent of 3", hall -> hall.spent(3, 0));
        none("too many rows", hall -> hall.odds(1, 0, 1));
        none("BEST not told", hall -> hall.best(1, 0));
        none("BOUND not told", hall -> hall.bound(1, 1));
        none("m not told", hall -> hall.roots(1, 0));
        none("ROUND as many as NAMES", hall -> hall.roots(0, 3));
        none("SMALL of none", hall -> hall.small(0, 0, 1000000));
        none("won of 2", hall -> hall.won(2, 0));
        none("game of 2", hall -> hall.game(2, 0, 7));
        none("steep behind NAMES", hall -> hall.steep(0, 3, 0, false));
        none("k behind NAMES", hall -> hall.steep(0, 0, 4, false));
        none("alike of 4", hall -> hall.alike(4, 0));
        none("not ALIKE", hall -> hall.shuffle(0, 2, 0));
        none("point 4 of four", hall -> hall.shuffle(0, 1, 4));
        none("unlike of unlike points", hall -> hall.unlike(0, 3, 5, 3));
        none("edges beyond three points", hall -> hall.net(3, 8));
    }

    /** Nothing more goes in. */
    private void fullRooms() {
        none("a byte more", hall -> hall.feed(0x61, 0, 0, 0, 0));
        none("twenty bytes more", hall -> hall.feed(-1, -1, -1, -1, -1));
        none("a saying more", LiarHall::saying);
        none("a number more", hall -> hall.lay(0));
        none("a talk more", hall -> hall.talk(0, 7, 0, 0));
        none("a net more", hall -> hall.net(4, 0));
        none("saying 20", hall -> hall.said(20, 0));
        none("talk 12", hall -> hall.run(12, 5, 0));
        none("six numbers modulo 5", hall -> hall.curve(5, 0));
    }

    /** A TAPE with a FAULT of a sort stays when it is refused as that sort. */
    private static void faultyTapes(String text) {
        UnchangedTest hall = new UnchangedTest("a hall with '" + text + "'", () -> {
            LiarHall made = new LiarHall();
            Due.tell(made, text);
            return made;
        });
        if (!text.equals("a")) {
            hall.none("saying", LiarHall::saying);
        }
        if (!text.equals("d:1")) {
            hall.none("law", LiarHall::law);
        }
        if (!text.equals("v:1")) {
            hall.none("giant", LiarHall::giant);
        }
    }
}
