import java.math.BigInteger;

/** Each sentence of the document that names a bound: the last that is taken and the first that is not. */
public final class BoundaryTest {
    private static final Due DUE = new Due();
    private static final int LAST_PRIME = 1000000007;
    private static final BigInteger TWO_TO_64 = BigInteger.ONE.shiftLeft(64);

    public static void main(String[] args) {
        callsOfAnObject();
        bytesOfTheTape();
        endsOfTheTape();
        sortsOfFaults();
        BoundaryTexts.all(DUE);
        numbersOfSayings();
        whatIsSaid();
        mostNamesSteepAndWork();
        cornersOfTruth();
        numbersOnThePoint();
        primesOfWorths();
        numbersForNames();
        restsOfNumbers();
        boundsOfPrime();
        numbersOfACurve();
        numbersOfLawsAndGiants();
        partsOfATalk();
        primeAboveAllSteeps();
        boundsOfNumbersInTexts();
        divisions();
        clausesThatDoNotHold();
        lettersNotTold();
        y();
        nothingIsLatest();
        valuesAndDrawsOfARun();
        curvesOfOneValue();
        boundsOfDice();
        seedsGoRound();
        fixedRunsGoRound();
        boundsOfTries();
        whatIsSpent();
        rowsOfOdds();
        boundsOfM();
        boundsOfBestAndBound();
        productsAndDiceNotTold();
        whatIsNotAsked();
        boundsOfSmall();
        boundsOfTurns();
        boundsOfStages();
        boundsOfNets();
        boundsOfShuffles();
        boundsOfUnlike();
        boundsOfRooms();
        boundsOfBooks();
        boundsOfMending();
        boundsOfLeast();
        boundsOfCount();
        DUE.close("BoundaryTest");
    }

    private static void is(String call, long got, long want) {
        DUE.is(call, got, want);
    }

    /** An object is used for at most 512 calls after it has been made. */
    private static void callsOfAnObject() {
        LiarHall hall = new LiarHall();
        for (int call = 1; call <= 510; call++) {
            is("lay as call " + call, hall.lay(call), call <= 6 ? call - 1 : -1);
        }
        is("clear as call 511", hall.clear(), 6);
        is("lay as call 512", hall.lay(1), 0);
        hall = Due.talk("a&b", 7, "c:1;e:1;d:p", "s:c;v:t");
        // Ten calls made the TALK.
        for (int call = 11; call <= 511; call++) {
            is("run as call " + call, hall.run(0, call, 0), 1);
        }
        is("latest as call 512", hall.latest(0), 1);
    }

    /** Twenty bytes more come to the TAPE; bytes of 0 are left out. NONE: more than 200. */
    private static void bytesOfTheTape() {
        int four = 0x61616161;
        LiarHall hall = new LiarHall();
        is("feed of nothing", hall.feed(0, 0, 0, 0, 0), 0);
        for (int many = 20; many <= 180; many += 20) {
            is("feed of twenty", hall.feed(four, four, four, four, four), many);
        }
        is("feed of nineteen", hall.feed(four, four, four, four, 0x616161), 199);
        is("feed of two to 199", hall.feed(0x61, 0, 0, 0, 0x61000000), -1);
        is("feed of one to 199", hall.feed(0, 0, 0x6100, 0, 0), 200);
        is("feed of one to 200", hall.feed(0, 0x01, 0, 0, 0), -1);
        is("feed of nothing to 200", hall.feed(0, 0, 0, 0, 0), 200);
        is("bytes", hall.count(6), 200);
        hall.end(180);
        is("feed of twenty to 180", hall.feed(four, four, four, four, four), 200);
        hall.end(181);
        is("feed of twenty to 181", hall.feed(four, four, four, four, four), -1);
        is("bytes", hall.count(6), 181);
        hall.end(0);
        is("the highest byte alone", hall.feed(0x80000000, 0, 0, 0, 0), 1);
        is("the lowest byte alone", hall.feed(0, 0, 0, 0, 1), 2);
        is("four bytes of 255", hall.feed(-1, 0, 0, 0, 0), 6);
        // What follows a full TAPE's refusal goes behind what was there: "a" and "|b", not the twenty between.
        hall.end(0);
        for (int many = 0; many < 10; many++) {
            hall.feed(0x20202020, 0x20202020, 0x20202020, 0x20202020, 0x20202020);
        }
        hall.end(196);
        is("a|", hall.feed(0x617c0000, 0, 0, 0, 0), 198);
        is("three more", hall.feed(0x26262600, 0, 0, 0, 0), -1);
        is("b", hall.feed(0, 0, 0, 0, 0x62), 199);
        is("a|b behind 196 blanks", hall.saying(), 0);
        is("COUNT of a|b", hall.said(0, 2), 3);
    }

    /** The TAPE has its first n bytes alone. False: n. */
    private static void endsOfTheTape() {
        LiarHall hall = new LiarHall();
        DUE.is("end 0 of none", hall.end(0), true);
        DUE.is("end 1 of none", hall.end(1), false);
        DUE.is("end -1 of none", hall.end(-1), false);
        Due.tell(hall, "a&b|c");
        DUE.is("end 6 of 5", hall.end(6), false);
        DUE.is("end -1 of 5", hall.end(-1), false);
        DUE.is("the least", hall.end(Integer.MIN_VALUE), false);
        DUE.is("the most", hall.end(Integer.MAX_VALUE), false);
        DUE.is("end 201 of 5", hall.end(201), false);
        is("bytes", hall.count(6), 5);
        is("fault", hall.fault(0), -1);
        DUE.is("end 5 of 5", hall.end(5), true);
        is("bytes", hall.count(6), 5);
        DUE.is("end 3 of 5", hall.end(3), true);
        DUE.is("end 4 of 3", hall.end(4), false);
        is("a&b", hall.saying(), 0);
        is("NAMES of a&b", hall.said(0, 0), 2);
        Due.tell(hall, "a");
        DUE.is("end 0 of 1", hall.end(0), true);
        is("bytes", hall.count(6), 0);
        is("fault of nothing", hall.fault(0), 0);
        for (int many = 0; many < 10; many++) {
            hall.feed(-1, -1, -1, -1, -1);
        }
        DUE.is("end 201 of 200", hall.end(201), false);
        DUE.is("end 200 of 200", hall.end(200), true);
        DUE.is("end 199 of 200", hall.end(199), true);
        is("bytes", hall.count(6), 199);
    }

    /** -2: no such sort. */
    private static void sortsOfFaults() {
        LiarHall hall = new LiarHall();
        for (int turn = 0; turn < 2; turn++) {
            is("sort -1", hall.fault(-1), -2);
            is("sort 3", hall.fault(3), -2);
            is("the least sort", hall.fault(Integer.MIN_VALUE), -2);
            is("the most", hall.fault(Integer.MAX_VALUE), -2);
            Due.tell(hall, "a");
        }
        is("sort 0", hall.fault(0), -1);
        is("sort 1", hall.fault(1), 0);
        is("sort 2", hall.fault(2), 0);
        Due.tell(hall, "d:1");
        is("sort 1", hall.fault(1), -1);
        is("sort 2", hall.fault(2), 0);
        Due.tell(hall, "v:1");
        is("sort 1", hall.fault(1), 0);
        is("sort 2", hall.fault(2), -1);
        is("the tape stays", hall.count(6), 3);
    }

    /** The TAPE is empty then; if refused it stays. NONE: a FAULT, there are 20. */
    private static void numbersOfSayings() {
        LiarHall hall = new LiarHall();
        is("an empty tape", hall.saying(), -1);
        for (int number = 0; number < 20; number++) {
            is("a fault", Due.saying(hall, "a|"), -1);
            is("the tape stays", hall.count(6), 2);
            Due.more(hall, (char) ('a' + number % 6) + "");
            is("saying " + number, hall.saying(), number);
            is("the tape is empty", hall.count(6), 0);
        }
        is("a 21st", Due.saying(hall, "a&b"), -1);
        is("the tape stays", hall.count(6), 3);
        is("without fault", hall.fault(0), -1);
        is("there are 20", hall.count(0), 20);
        is("NAMES of the last", hall.said(19, 0), 2);
        is("no 21st", hall.said(20, 0), -1);
    }

    /** 3 and N STEEP of a NAME (0 .. 5). NONE for others. */
    private static void whatIsSaid() {
        LiarHall hall = new LiarHall();
        is("said of none", hall.said(0, 0), -1);
        Due.saying(hall, "b|f&f");
        long[] want = {6, 2, 48, 0, 1, 0, 0, 0, 2};
        for (int what = 0; what < want.length; what++) {
            is("said " + what, hall.said(0, what), want[what]);
        }
        is("said 9", hall.said(0, 9), -1);
        is("said -1", hall.said(0, -1), -1);
        is("said the least", hall.said(0, Integer.MIN_VALUE), -1);
        is("said the most", hall.said(0, Integer.MAX_VALUE), -1);
        is("said of -1", hall.said(-1, 0), -1);
        is("said of 1", hall.said(1, 0), -1);
        Due.saying(hall, "a");
        is("NAMES", hall.said(1, 0), 1);
        is("no WORK", hall.said(1, 1), 0);
        is("STEEP beyond NAMES", hall.said(1, 4), 0);
        is("STEEP beyond NAMES", hall.said(1, 8), 0);
    }

    /** NAMES are those from a up to the greatest that stands in it; 200 bytes hold STEEP 100, WORK 199 at most. */
    private static void mostNamesSteepAndWork() {
        LiarHall hall = new LiarHall();
        Due.saying(hall, "f");
        is("NAMES of f", hall.said(0, 0), 6);
        is("COUNT of f", hall.said(0, 2), 32);
        Due.saying(hall, "a|!a|f");
        is("COUNT of all", hall.said(1, 2), 64);
        Due.saying(hall, "a&!a&f");
        is("COUNT of none", hall.said(2, 2), 0);
        Due.saying(hall, " " + Due.times("a&", 99) + "a");
        is("STEEP of 100", hall.said(3, 3), 100);
        is("WORK of 99", hall.said(3, 1), 99);
        // Nineteen of !!!!!!!!a with & between, and more of ! up to the last byte.
        Due.saying(hall, Due.times("!!!!!!!!a&", 19) + "!!!!!!!!a");
        is("WORK of 8 times 20 and 19", hall.said(4, 1), 179);
        is("STEEP of 20", hall.said(4, 3), 20);
        is("COUNT of 1", hall.said(4, 2), 1);
    }

    /** TRUTH at a corner (bit N of 0 .. 63 for a NAME). */
    private static void cornersOfTruth() {
        LiarHall hall = new LiarHall();
        is("truth of none", hall.truth(0, 0), -1);
        Due.saying(hall, "f&!a");
        is("corner 0", hall.truth(0, 0), 0);
        is("corner 31", hall.truth(0, 31), 0);
        is("corner 32", hall.truth(0, 32), 1);
        is("corner 62", hall.truth(0, 62), 1);
        is("corner 63", hall.truth(0, 63), 0);
        is("corner 64", hall.truth(0, 64), -1);
        is("corner -1", hall.truth(0, -1), -1);
        is("the least corner", hall.truth(0, Integer.MIN_VALUE), -1);
        is("the most", hall.truth(0, Integer.MAX_VALUE), -1);
        is("saying 1", hall.truth(1, 0), -1);
        is("saying -1", hall.truth(-1, 0), -1);
        Due.saying(hall, "a");
        is("bits of no NAME", hall.truth(1, 62), 0);
        is("bits of no NAME", hall.truth(1, 63), 1);
    }

    /** lay: NONE: below 0, there are six; clear: how many lay there. */
    private static void numbersOnThePoint() {
        LiarHall hall = new LiarHall();
        is("clear of none", hall.clear(), 0);
        is("lay -1", hall.lay(-1), -1);
        is("lay the least", hall.lay(Integer.MIN_VALUE), -1);
        is("none lies", hall.count(5), 0);
        is("lay 0", hall.lay(0), 0);
        is("lay the most", hall.lay(Integer.MAX_VALUE), 1);
        for (int name = 2; name < 6; name++) {
            is("lay " + name, hall.lay(name), name);
        }
        is("a seventh", hall.lay(6), -1);
        is("a seventh below 0", hall.lay(-1), -1);
        is("six lie", hall.count(5), 6);
        is("the last is the sixth", hall.curve(LAST_PRIME, 5), 5);
        is("the first", hall.curve(LAST_PRIME, 0), 0);
        is("the second", hall.curve(LAST_PRIME, 1), Integer.MAX_VALUE % LAST_PRIME);
        is("clear", hall.clear(), 6);
        is("clear", hall.clear(), 0);
        is("lay for a again", hall.lay(9), 0);
        is("what lay there counts for nothing", hall.curve(LAST_PRIME, 1), 9);
    }

    /** PRIMES 3 .. 1,000,000,007; NONE: no such ones. */
    private static void primesOfWorths() {
        LiarHall hall = new LiarHall();
        Due.saying(hall, "a");
        Due.law(hall, "c:1");
        Due.giant(hall, "v:t");
        Due.point(hall, 2);
        int[] none = {Integer.MIN_VALUE, -7, -3, -2, -1, 0, 1, 2, 4, 9, 1000000005, 1000000006, 1000000008, 1000000009,
            Integer.MAX_VALUE};
        for (int prime : none) {
            is("worth by " + prime, hall.worth(0, prime), -1);
            is("sum by " + prime, hall.sum(0, prime), -1);
            is("curve by " + prime, hall.curve(prime, 0), -1);
            is("game by " + prime, hall.game(0, 0, prime), -1);
            is("talk by " + prime, hall.talk(0, prime, 0, 0), -1);
        }
        is("no talk", hall.count(3), 0);
        int talks = 0;
        for (int prime : new int[] {3, 5, 999999937, LAST_PRIME}) {
            is("worth by " + prime, hall.worth(0, prime), 2);
            is("sum by " + prime, hall.sum(0, prime), 2);
            is("curve by " + prime, hall.curve(prime, 0), 2);
            is("game by " + prime, hall.game(0, 0, prime), 2);
            is("talk by " + prime, hall.talk(0, prime, 0, 0), talks);
            talks++;
        }
        for (int saying = -1; saying < 2; saying += 2) {
            is("worth of no saying", hall.worth(saying, 5), -1);
            is("sum of no saying", hall.sum(saying, 5), -1);
            is("game of no saying", hall.game(saying, 0, 5), -1);
        }
    }

    /** worth: NONE: fewer numbers than NAMES; sum: over the NAMES that have no number; game: more count for nothing. */
    private static void numbersForNames() {
        LiarHall hall = new LiarHall();
        Due.saying(hall, "d|!d");
        Due.saying(hall, "f");
        long[] sums = {16, 8, 4, 2, 1, 1, 1};
        long[] sumsOfF = {32, 16, 8, 4, 2, 1, 1};
        for (int laid = 0; laid <= 6; laid++) {
            is("worth by " + laid, hall.worth(0, 97), laid < 4 ? -1 : 1);
            is("worth of f by " + laid, hall.worth(1, 97), laid < 6 ? -1 : 1);
            is("sum by " + laid, hall.sum(0, 97), sums[laid]);
            is("sum of f by " + laid, hall.sum(1, 97), sumsOfF[laid]);
            is("game all by " + laid, hall.game(0, 63, 97), 1);
            is("game of f, all, by " + laid, hall.game(1, 63, 97), laid < 6 ? 0 : 1);
            hall.lay(laid == 3 || laid == 5 ? 1 : 0);
        }
        hall.clear();
        is("sum of 32 modulo 31", hall.sum(1, 31), 1);
        is("sum of 32 modulo 3", hall.sum(1, 3), 2);
        // More numbers on the POINT than NAMES change no WORTH.
        Due.saying(hall, "a|b");
        Due.point(hall, 2, 3, 50, 60, 70, 80);
        is("worth by six", hall.worth(2, 97), 96);
        is("sum by six", hall.sum(2, 97), 96);
        is("game by six", hall.game(2, 0, 97), 96);
    }

    /** (Numbers are taken as rests.) 1 less u and u and v less u times v stay rests too. */
    private static void restsOfNumbers() {
        LiarHall hall = new LiarHall();
        Due.saying(hall, "a");
        Due.saying(hall, "!a");
        Due.saying(hall, "a|b");
        Due.saying(hall, "a&b");
        int[] numbers = {0, 1, 2, 6, 7, 8, Integer.MAX_VALUE};
        int[] rests = {0, 1, 2, 6, 0, 1, 1};
        for (int i = 0; i < numbers.length; i++) {
            Due.point(hall, numbers[i], numbers[i]);
            int rest = rests[i];
            is("rest of " + numbers[i], hall.worth(0, 7), rest);
            is("! of " + numbers[i], hall.worth(1, 7), (8 - rest) % 7);
            is("| of " + numbers[i], hall.worth(2, 7), Math.floorMod(2 * rest - rest * rest, 7));
            is("& of " + numbers[i], hall.worth(3, 7), rest * rest % 7);
            is("game of " + numbers[i], hall.game(3, 0, 7), rest * rest % 7);
            is("curve of " + numbers[i], hall.curve(7, 0), rest);
        }
        Due.point(hall, LAST_PRIME, LAST_PRIME - 1);
        is("the PRIME is 0", hall.worth(0, LAST_PRIME), 0);
        is("| of 0 and -1", hall.worth(2, LAST_PRIME), LAST_PRIME - 1);
        Due.point(hall, LAST_PRIME - 1, LAST_PRIME - 1);
        is("! of -1", hall.worth(1, LAST_PRIME), 2);
        is("& of -1 and -1", hall.worth(3, LAST_PRIME), 1);
        is("| of -1 and -1", hall.worth(2, LAST_PRIME), LAST_PRIME - 3);
    }

    /** Whether a number (0 .. 1,000,000,007) is prime. False: out of bounds. */
    private static void boundsOfPrime() {
        LiarHall hall = new LiarHall();
        int[] no = {Integer.MIN_VALUE, -LAST_PRIME, -3, -2, -1, 0, 1, 4, 1000000006, 1000000008, 1000000009, 1000000021,
            Integer.MAX_VALUE};
        int[] yes = {2, 3, 5, 7, 61, 999999937, LAST_PRIME};
        for (int number : no) {
            DUE.is("prime " + number, hall.prime(number), false);
        }
        for (int number : yes) {
            DUE.is("prime " + number, hall.prime(number), true);
        }
        // Squares of primes, the greatest below the bound too.
        for (int root : new int[] {2, 3, 7, 61, 31607}) {
            DUE.is("prime " + root * root, hall.prime(root * root), false);
        }
    }

    /** curve: x (0 ..). NONE: no such PRIME, none lie there, as many as the PRIME or more, x. */
    private static void numbersOfACurve() {
        LiarHall hall = new LiarHall();
        int[] primes = {3, 5, 7};
        for (int laid = 0; laid <= 6; laid++) {
            for (int prime : primes) {
                boolean told = laid > 0 && laid < prime;
                is(laid + " modulo " + prime, hall.curve(prime, 0), told ? 1 : -1);
                is(laid + " modulo " + prime + " at -1", hall.curve(prime, -1), -1);
                is(laid + " modulo " + prime + " behind all", hall.curve(prime, prime - 1), told ? 1 : -1);
            }
            hall.lay(1);
        }
        Due.point(hall, 0, 1, 4, 2, 2, 4);
        for (int x = 0; x < 7; x++) {
            is("square of " + x, hall.curve(7, x), x * x % 7);
        }
        is("the PRIME as x is 0", hall.curve(7, 7), 0);
        is("8 is 1", hall.curve(7, 8), 1);
        is("the most x", hall.curve(7, Integer.MAX_VALUE), 1);
        is("the least x", hall.curve(7, Integer.MIN_VALUE), -1);
        Due.point(hall, 5);
        is("of one number everywhere", hall.curve(LAST_PRIME, Integer.MAX_VALUE), 5);
        Due.point(hall, 0, 1);
        is("the PRIME as x", hall.curve(LAST_PRIME, LAST_PRIME), 0);
        is("-1 as x", hall.curve(LAST_PRIME, LAST_PRIME - 1), LAST_PRIME - 1);
    }

    /** 12 texts at most each; NONE: a FAULT, there are twelve; NONE likewise. */
    private static void numbersOfLawsAndGiants() {
        LiarHall hall = new LiarHall();
        is("an empty tape", hall.law(), -1);
        is("an empty tape", hall.giant(), -1);
        for (int number = 0; number < 12; number++) {
            is("a faulty law", Due.law(hall, "d:"), -1);
            is("the tape stays", hall.count(6), 2);
            is("law " + number, Due.law(hall, "d:" + number), number);
            is("the tape is empty", hall.count(6), 0);
            is("a faulty giant", Due.giant(hall, "v:"), -1);
            is("the tape stays", hall.count(6), 2);
            is("giant " + number, Due.giant(hall, "s:" + number), number);
            is("the tape is empty", hall.count(6), 0);
        }
        is("a 13th law", Due.law(hall, "d:99"), -1);
        is("the tape stays", hall.count(6), 4);
        is("a 13th giant", Due.giant(hall, "s:99"), -1);
        is("the tape stays", hall.count(6), 4);
        is("twelve laws", hall.count(1), 12);
        is("twelve giants", hall.count(2), 12);
        Due.saying(hall, "a");
        is("the first of both", hall.talk(0, 97, 0, 0), 0);
        is("the last of both", hall.talk(0, 97, 11, 11), 1);
        is("law 12", hall.talk(0, 97, 12, 0), -1);
        is("giant 12", hall.talk(0, 97, 0, 12), -1);
        is("eleven dice", hall.odds(1, 0, 1), 11);
        is("run of the last", hall.run(1, 0, 0), 1);
        is("its claim", hall.latest(0), 11);
    }

    /** A TALK: its number. NONE: no such ones, there are twelve. */
    private static void partsOfATalk() {
        LiarHall hall = new LiarHall();
        is("of nothing", hall.talk(0, 5, 0, 0), -1);
        Due.saying(hall, "a");
        is("without law and giant", hall.talk(0, 5, 0, 0), -1);
        Due.law(hall, "d:1");
        is("without giant", hall.talk(0, 5, 0, 0), -1);
        Due.giant(hall, "v:t");
        int[] none = {Integer.MIN_VALUE, -1, 1, Integer.MAX_VALUE};
        for (int number : none) {
            is("saying " + number, hall.talk(number, 5, 0, 0), -1);
            is("law " + number, hall.talk(0, 5, number, 0), -1);
            is("giant " + number, hall.talk(0, 5, 0, number), -1);
        }
        for (int number = 0; number < 12; number++) {
            is("talk " + number, hall.talk(0, 5, 0, 0), number);
        }
        is("a 13th", hall.talk(0, 5, 0, 0), -1);
        is("there are twelve", hall.count(3), 12);
        is("run of the last", hall.run(11, 0, 0), 1);
        is("run of the 13th", hall.run(12, 0, 0), -1);
    }

    /** A PRIME above all its STEEPS. */
    private static void primeAboveAllSteeps() {
        LiarHall hall = new LiarHall();
        Due.law(hall, "c:1;e:1;d:p");
        Due.giant(hall, "s:c;v:t");
        int[] steeps = {1, 2, 3, 4, 5, 6, 7, 100};
        int[] least = {3, 3, 5, 5, 7, 7, 11, 101};
        int talks = 0;
        for (int i = 0; i < steeps.length; i++) {
            Due.saying(hall, Due.times("b&", steeps[i] - 1) + "b");
            for (int prime : new int[] {3, 5, 7, 11, 97, 101}) {
                if (prime < least[i]) {
                    is(steeps[i] + " by " + prime, hall.talk(i, prime, 0, 0), -1);
                }
            }
            is(steeps[i] + " by " + least[i], hall.talk(i, least[i], 0, 0), talks);
            is("run by " + least[i], hall.run(talks, steeps[i], 0), 1);
            talks++;
        }
        is("value at STEEP 100 in ROUND 1", hall.value(1, 100), 1);
        is("value at 0 in ROUND 1", hall.value(1, 0), 0);
        DUE.noValue("value at 101", hall, 1, 101);
        // The greatest STEEP counts, wherever it stands.
        Due.saying(hall, "a|b&b&b|c");
        is("3 behind 1", hall.talk(steeps.length, 3, 0, 0), -1);
        is("3 behind 1", hall.talk(steeps.length, 5, 0, 0), talks);
        Due.saying(hall, "f&f&f");
        is("3 of the last NAME", hall.talk(steeps.length + 1, 3, 0, 0), -1);
    }

    private static void claimIs(String sum, long want) {
        LiarHall hall = Due.talk("a", LAST_PRIME, "d:1", "s:" + sum);
        hall.run(0, 1, 0);
        is(sum, hall.latest(0), want);
    }

    /** Behind each sign numbers are within -2,000,000,000 .. 2,000,000,000. */
    private static void boundsOfNumbersInTexts() {
        String most = "2000*1000*1000";
        claimIs(most, 2000000000 - LAST_PRIME);
        claimIs(most + "=" + most + "+1?5", 5);
        claimIs(most + "-1<" + most + "?5", 5);
        claimIs("[" + most + "+1]-" + most, 0);
        claimIs("[" + most + "+9999]/1000", 2000000);
        claimIs("[" + most + "-1]-[" + most + "-2]", 1);
        claimIs("[0-" + most + "-1]+" + most, 0);
        claimIs("0-" + most + "-1<0-" + most + "?5", 0);
        claimIs("[0-[" + most + "-1]]+" + most, 1);
        claimIs("2001*1000*1000-" + most, 0);
        claimIs("[0-2001*1000*1000]+" + most, 0);
        claimIs("[0-2001]*1000*1000+" + most, 0);
        claimIs("[" + most + "]*[" + most + "]-" + most, 0);
        claimIs("[" + most + "]*[0-" + most + "]+" + most, 0);
        claimIs("[0-" + most + "]*[0-" + most + "]-" + most, 0);
        claimIs("9999*9999*9999*9999*9999-" + most, 0);
        claimIs("p+p-" + most, 0);
        claimIs("0-p-p+" + most, 0);
        claimIs("1999*1000*1000+" + "999*1000*1000-" + most, 0);
    }

    /** / cuts towards 0, by 0 gives 0. */
    private static void divisions() {
        claimIs("7/2", 3);
        claimIs("[0-7]/2+10", 7);
        claimIs("7/[0-2]+10", 7);
        claimIs("[0-7]/[0-2]+10", 13);
        claimIs("1/2", 0);
        claimIs("[0-1]/2", 0);
        claimIs("0/5", 0);
        claimIs("5/0", 0);
        claimIs("0/0", 0);
        claimIs("[0-5]/0+1", 1);
        claimIs("5/[3-3]+4", 4);
        claimIs("5/0/0", 0);
        claimIs("5/0*7+1", 1);
        claimIs("2000*1000*1000/[0-1]+2000*1000*1000", 0);
    }

    /** WORTH of a LABEL: the SUM of its first CLAUSE whose CONDITION holds (or has none); 0 without. */
    private static void clausesThatDoNotHold() {
        claimIs("1<1?5", 0);
        claimIs("1<1?5;s:2<2?6", 0);
        claimIs("1<1?5;s:1<2?6;s:7", 6);
        claimIs("1<1?5;s:7;s:1<2?6", 7);
        claimIs("0;s:7", 0);
        LiarHall hall = Due.talk("a", 7, "d:1", "v:5");
        hall.run(0, 0, 0);
        is("without s", hall.latest(0), 0);
        hall = Due.talk("a", 7, "d:1", "s:5");
        hall.run(0, 0, 0);
        is("without v", hall.value(0, 0), 0);
        is("without v", hall.value(0, 1), 0);
        is("without c and e", hall.latest(1), -1);
        is("without d", Due.talk("a|b", 7, "c:1", "v:1").odds(0, 0, 1), 1);
    }

    /** Letters that are not told of what is asked are 0; l is 0 in ROUND 0; k is 0 for e. */
    private static void lettersNotTold() {
        LiarHall hall = Due.talk("a|b", 7, "e:k+1;d:p", "s:l+i+j+1;v:l");
        hall.run(0, 3, 0);
        is("l, i and j of s", hall.latest(0), 1);
        is("l in ROUND 0", hall.value(0, 0), 0);
        is("l in ROUND 1", hall.value(1, 0), hall.draw(0));
        // Also behind a run in which they were told.
        hall.run(0, 3, 0);
        is("l, i and j of s again", hall.latest(0), 1);
        is("l in ROUND 0 again", hall.value(0, 1), 0);
        is("e asked by k and 1", hall.spent(0, 0), 17);
        is("e not asked by k", Due.talk("a|b", 7, "e:k", "v:1").spent(0, 0), 16);
        is("e's ROUND is 2", Due.talk("a|b", 7, "e:i=2?1", "v:1").spent(0, 0), 17);
        is("c's last ROUND is 1", Due.talk("a|b", 7, "c:i>0?1", "v:1").spent(0, 0), 17);
    }

    /** y (0 .. 1,000,000). NONE: no such TALK, y. */
    private static void y() {
        LiarHall hall = Due.talk("a", LAST_PRIME, "d:1", "s:y");
        is("no TALK 1", hall.run(1, 0, 0), -1);
        is("no TALK -1", hall.run(-1, 0, 0), -1);
        is("no TALK 1", hall.fixed(1, 0), -1);
        is("no TALK -1", hall.fixed(-1, 0), -1);
        for (int y : new int[] {Integer.MIN_VALUE, -1, 1000001, Integer.MAX_VALUE}) {
            is("run by " + y, hall.run(0, 5, y), -1);
            is("fixed by " + y, hall.fixed(0, y), -1);
            is("odds by " + y, hall.odds(0, y, 0), -1);
            is("rows by " + y, hall.odds(0, y, 1), -1);
        }
        is("none was run", hall.latest(0), -1);
        LiarHall liar = Due.talk("a", LAST_PRIME, "e:1;d:1", "v:y");
        is("run not BELIEVED by the most y", liar.run(0, 5, 1000000), 0);
        is("fixed not BELIEVED by the most y", liar.fixed(0, 1000000), 0);
        is("run BELIEVED by the least", liar.run(0, 5, 0), 1);
        is("fixed BELIEVED by the least", liar.fixed(0, 0), 1);
        for (int y : new int[] {0, 1, 999999, 1000000}) {
            is("run by " + y, hall.run(0, 5, y), 1);
            is("claim", hall.latest(0), y);
            is("fixed by " + y, hall.fixed(0, y), 1);
            is("claim", hall.latest(0), y);
            is("odds by " + y, hall.odds(0, y, 0), 1);
            is("rows by " + y, hall.odds(0, y, 1), 1);
        }
    }

    /** latest: NONE: none yet, what. */
    private static void nothingIsLatest() {
        LiarHall hall = Due.talk("a", 7, "c:1;e:1;d:p", "s:c;v:t");
        for (int turn = 0; turn < 2; turn++) {
            for (int what = -1; what < 5; what++) {
                is("latest " + what + " of none", hall.latest(what), -1);
            }
            is("draw of none", hall.draw(0), -1);
            DUE.noValue("value of none", hall, 0, 0);
            // TRIES and ODDS are no run() or fixed(), nor is what is refused.
            is("tries", hall.tries(0, 1), 0);
            is("odds", hall.odds(0, 0, 0), 7);
            hall.run(0, 0, -1);
            hall.fixed(1, 0);
        }
        hall.run(0, 0, 0);
        is("the first CLAIM", hall.latest(0), 1);
        is("not given up", hall.latest(1), -1);
        is("the last CLAIM", hall.latest(2), hall.draw(0));
        is("draws", hall.latest(3), 1);
        for (int what : new int[] {Integer.MIN_VALUE, -1, 4, Integer.MAX_VALUE}) {
            is("latest " + what, hall.latest(what), -1);
        }
    }

    /** value: NoSuchElementException: none such; draw: NONE: none. */
    private static void valuesAndDrawsOfARun() {
        LiarHall hall = Due.talk("a&a|b|c", 7, "c:1;e:1;d:p", "s:c;v:i=1?t+1;v:t");
        is("given up", hall.run(0, 9, 0), 0);
        is("in ROUND 1", hall.latest(1), 1);
        is("one draw", hall.latest(3), 1);
        DUE.is("draw of ROUND 0", hall.draw(0) >= 0, true);
        is("no draw of ROUND 1", hall.draw(1), -1);
        is("draw -1", hall.draw(-1), -1);
        is("the most", hall.draw(Integer.MAX_VALUE), -1);
        is("the least", hall.draw(Integer.MIN_VALUE), -1);
        is("value at 0", hall.value(0, 0), 3);
        is("value at STEEP", hall.value(0, 2) >= 0 ? 1 : 0, 1);
        DUE.noValue("value at STEEP and 1", hall, 0, 3);
        DUE.noValue("value at -1", hall, 0, -1);
        DUE.noValue("value at the most", hall, 0, Integer.MAX_VALUE);
        DUE.noValue("value at the least", hall, 0, Integer.MIN_VALUE);
        is("said in the ROUND of giving up", hall.value(1, 1) >= 0 ? 1 : 0, 1);
        DUE.noValue("beyond STEEP of ROUND 1", hall, 1, 2);
        DUE.noValue("behind giving up", hall, 2, 0);
        DUE.noValue("ROUND -1", hall, -1, 0);
        DUE.noValue("the most ROUND", hall, Integer.MAX_VALUE, 0);
        DUE.noValue("the least", hall, Integer.MIN_VALUE, 0);
        hall = Due.talk("f", 7, "c:1;e:1;d:p", "s:c;v:t");
        is("six ROUNDS", hall.run(0, 9, 0), 1);
        is("six draws", hall.latest(3), 6);
        is("the last draw", hall.draw(5), hall.latest(2));
        is("draw of ROUND 6", hall.draw(6), -1);
        is("value of ROUND 5", hall.value(5, 1), 1);
        DUE.noValue("value of ROUND 6", hall, 6, 0);
        DUE.noValue("one value in ROUND 0", hall, 0, 1);
        // A run that gives up at the end does so in ROUND as many as NAMES; all were drawn.
        hall = Due.talk("f", 7, "e:1;d:1", "s:c;v:3");
        is("given up at the end", hall.run(0, 9, 0), 0);
        is("in ROUND 6", hall.latest(1), 6);
        is("six draws", hall.latest(3), 6);
        is("the last draw", hall.draw(5), 0);
    }

    /** A CURVE of one value has that everywhere: at 1 as at 0, and at each DRAW. */
    private static void curvesOfOneValue() {
        LiarHall hall = Due.talk("b", 7, "c:1;d:p", "s:6;v:i=0?3;v:i=1?j*3");
        is("3 and 3 are 6, 0 and 3 are 3", hall.run(0, 9, 0), 1);
        is("not given up", hall.latest(1), -1);
        is("two draws", hall.latest(3), 2);
        hall = Due.talk("b", 7, "c:1-i;d:p", "s:y;v:4");
        for (int y = 0; y < 7; y++) {
            is("4 and 4 are 1, claimed " + y, hall.run(0, 9, y), y == 1 ? 1 : 0);
        }
        is("given up in ROUND 0", hall.latest(1), 0);
        hall.run(0, 9, 1);
        is("the CLAIM at the end", hall.latest(2), 4);
    }

    /** D is WORTH of d, but 1 at least and the PRIME at most. */
    private static void boundsOfDice() {
        String[] laws = {"d:0", "d:0-1", "d:0-9999*9999*9999", "d:1", "d:2", "d:p-1", "d:p", "d:p+1", "d:9999*9999*9999"};
        int[] want = {1, 1, 1, 1, 2, 12, 13, 13, 13};
        for (int i = 0; i < laws.length; i++) {
            LiarHall hall = Due.talk("a", 13, laws[i], "v:1");
            is("rows by " + laws[i], hall.odds(0, 0, 1), want[i]);
            int most = 0;
            for (int seed = 0; seed < 200; seed++) {
                hall.run(0, seed * 1000003L, 0);
                int draw = hall.draw(0);
                DUE.is("draw by " + laws[i], draw >= 0 && draw < want[i], true);
                most = Math.max(most, draw);
            }
            is("the most drawn by " + laws[i], most, want[i] - 1);
        }
        LiarHall hall = Due.talk("a", LAST_PRIME, "d:p+p", "v:1");
        is("run by the most dice", hall.run(0, -1, 0), 1);
        is("draw by the most dice", hall.draw(0), drawOf(next(-1, 0), LAST_PRIME));
    }

    private static BigInteger next(long x, long said) {
        return next(BigInteger.valueOf(x), said);
    }

    private static BigInteger next(BigInteger x, long said) {
        BigInteger product = x.multiply(new BigInteger("6364136223846793005"));
        return product.add(new BigInteger("1442695040888963407")).add(BigInteger.valueOf(said)).mod(TWO_TO_64);
    }

    private static int drawOf(BigInteger x, int dice) {
        return x.shiftRight(33).mod(BigInteger.valueOf(dice)).intValueExact();
    }

    /** x by 64 bits, going round; a DRAW is x shifted right by 33 (without sign) modulo D. */
    private static void seedsGoRound() {
        LiarHall hall = Due.talk("a|b|c|d|e|f", LAST_PRIME, "c:1;e:1;d:p", "s:c;v:t");
        long[] seeds = {0, 1, -1, 2, 3, Long.MIN_VALUE, Long.MAX_VALUE, Long.MIN_VALUE + 1, 1L << 33, 0x80000000L, -5};
        for (long seed : seeds) {
            is("run by " + seed, hall.run(0, seed, 0), 1);
            BigInteger x = BigInteger.valueOf(seed);
            for (int round = 0; round < 6; round++) {
                x = next(x, 0);
                is("draw " + round + " by " + seed, hall.draw(round), drawOf(x, LAST_PRIME));
            }
        }
    }

    /** FIXED: x is 1 at first, and stirred by each number as it is SAID, the CLAIM first; a DRAW leaves it. */
    private static void fixedRunsGoRound() {
        LiarHall hall = Due.talk("b&b|c", LAST_PRIME, "d:p", "s:y*7;v:0-1-y-j");
        for (int y : new int[] {0, 1, 77, 1000000}) {
            is("fixed by " + y, hall.fixed(0, y), 1);
            BigInteger x = next(1, 7L * y);
            int[] values = {1, 3, 2};
            for (int round = 0; round < 3; round++) {
                for (int j = 0; j < values[round]; j++) {
                    x = next(x, LAST_PRIME - 1 - y - j);
                }
                is("draw " + round + " by " + y, hall.draw(round), drawOf(x, LAST_PRIME));
            }
        }
    }

    /** TRIES of so many (1 .. 200): the least y of 0 .. so many less 1. NONE: none, no such ones. */
    private static void boundsOfTries() {
        LiarHall hall = Due.talk("a", 997, "e:1;d:1", "s:0;v:y=0?0;v:1");
        is("one, by 0", hall.tries(0, 1), 0);
        is("200, by 0", hall.tries(0, 200), 0);
        hall = Due.talk("a", 997, "e:1;d:1", "s:0;v:y=199|y=150?0;v:1");
        is("none of one", hall.tries(0, 1), -1);
        is("none of 150", hall.tries(0, 150), -1);
        is("the last of 151", hall.tries(0, 151), 150);
        is("the least of 200", hall.tries(0, 200), 150);
        for (int many : new int[] {Integer.MIN_VALUE, -1, 0, 201, Integer.MAX_VALUE}) {
            is("tries of " + many, hall.tries(0, many), -1);
        }
        is("tries of TALK 1", hall.tries(1, 200), -1);
        is("tries of TALK -1", hall.tries(-1, 200), -1);
        hall = Due.talk("a", 997, "e:1;d:1", "s:0;v:y=199?0;v:1");
        is("none of 199", hall.tries(0, 199), -1);
        is("the last of 200", hall.tries(0, 200), 199);
        hall = Due.talk("a", 997, "e:1;d:1", "s:0;v:y=200?0;v:1");
        is("200 is not of 200", hall.tries(0, 200), -1);
    }

    /** spent: SPENT (0), ALONE (1). NONE: no such ones. */
    private static void whatIsSpent() {
        LiarHall hall = Due.talk("f", 7, "c:1;e:1;d:p", "v:t");
        // Five CURVES of one value and one of two, six sums, no WORK.
        is("spent", hall.spent(0, 0), 5 * 2 + 8 + 6);
        is("no WORK alone", hall.spent(0, 1), 0);
        for (int what : new int[] {Integer.MIN_VALUE, -1, 2, Integer.MAX_VALUE}) {
            is("spent " + what, hall.spent(0, what), -1);
        }
        is("spent of TALK 1", hall.spent(1, 0), -1);
        is("spent of TALK -1", hall.spent(-1, 1), -1);
        hall = Due.talk(Due.times("!!!!!!!!f&", 19) + "!!!!!!!!f", 23, "c:1;e:1;d:p", "v:t");
        is("much alone", hall.spent(0, 1), 179 * 64);
        is("much spent", hall.spent(0, 0), 5 * 2 + 2 * 21 * 21 + 6 + 179);
        hall = Due.talk(Due.times("a&", 99) + "a", 101, "c:0-1;e:0-1;d:p", "v:t");
        is("STEEP of 100, c and e below 0", hall.spent(0, 0), 1 + 2 * 101 * 101 + 99);
    }

    /** All rows: 2,000 at most. NONE: too many, no such ones, y. */
    private static void rowsOfOdds() {
        rowsAre("a", 2003, "d:1999", 1999);
        rowsAre("a", 2003, "d:2000", 2000);
        rowsAre("a", 2003, "d:2001", -1);
        rowsAre("a", 2003, "d:p", -1);
        rowsAre("a|b", 1009, "d:i=0?2;d:1000", 2000);
        rowsAre("a|b", 1009, "d:i=0?3;d:667", -1);
        rowsAre("a|b", 1009, "d:i=0?667;d:3", -1);
        rowsAre("a|b|c|d|e|f", 5, "d:3", 729);
        rowsAre("a|b|c|d|e|f", 5, "d:i=0?2;d:i<5?4;d:1", 512);
        rowsAre("a|b|c|d|e|f", 5, "d:4", -1);
        rowsAre("a|b|c|d|e|f", LAST_PRIME, "d:p", -1);
        rowsAre("a|b|c|d|e|f", LAST_PRIME, "d:i<5?p;d:1", -1);
        rowsAre("a|b|c|d|e|f", LAST_PRIME, "d:0", 1);
        LiarHall hall = Due.talk("a", 7, "d:2", "v:1");
        for (int what : new int[] {Integer.MIN_VALUE, -1, 2, Integer.MAX_VALUE}) {
            is("odds " + what, hall.odds(0, 0, what), -1);
        }
        is("odds of TALK 1", hall.odds(1, 0, 0), -1);
        is("odds of TALK -1", hall.odds(-1, 0, 1), -1);
        // Rows by which the asker gives up early are rows all the same, and none of them is BELIEVED.
        hall = Due.talk("a|b", 7, "c:1;e:1;d:p", "s:c+1;v:t");
        is("no row BELIEVED", hall.odds(0, 0, 0), 0);
        is("all rows", hall.odds(0, 0, 1), 49);
    }

    private static void rowsAre(String saying, int prime, String law, int want) {
        LiarHall hall = Due.talk(saying, prime, law, "v:1");
        is("rows of " + saying + " by " + law, hall.odds(0, 0, 1), want);
        is("BELIEVED of " + saying + " by " + law, hall.odds(0, 0, 0), want);
        is("no run", hall.latest(0), -1);
    }

    /** m: the most roots among 0 .. D less 1 of a CURVE whose values at 0 and 1 do not sum up to 0 (D without c). */
    private static void boundsOfM() {
        // D of 1 has 0 alone, D of 2 has 0 and 1, which are not both roots; STEEP 0 has none.
        int[][] want = {{0, 0, 0, 0}, {1, 1, 1, 1}, {1, 1, 2, 2}, {1, 1, 2, 3}, {1, 1, 2, 3}};
        String[] sayings = {"b", "a", "a&a", "a&a&a", "a&a&a&a"};
        for (int steep = 0; steep < sayings.length; steep++) {
            for (int dice = 1; dice <= 4; dice++) {
                LiarHall hall = Due.talk(sayings[steep], 5, "c:1;e:1;d:" + dice, "v:t");
                is("m of STEEP " + steep + " by " + dice, hall.roots(0, 0), want[steep][dice - 1]);
                hall = Due.talk(sayings[steep], 5, "e:1;d:" + dice, "v:t");
                is("m of STEEP " + steep + " by " + dice + " without c", hall.roots(0, 0), dice);
            }
            LiarHall hall = Due.talk(sayings[steep], 5, "c:1;e:1;d:p", "v:t");
            is("m of STEEP " + steep + " by the PRIME", hall.roots(0, 0), steep);
        }
        is("m of STEEP 2 by 3", Due.talk("a&a", 3, "c:1;e:1;d:p", "v:t").roots(0, 0), 2);
        LiarHall hall = Due.talk("f", 5, "c:1;e:1;d:p", "v:t");
        is("ROUND 5", hall.roots(0, 5), 1);
        for (int round : new int[] {Integer.MIN_VALUE, -1, 6, Integer.MAX_VALUE}) {
            is("ROUND " + round, hall.roots(0, round), -1);
        }
        is("roots of TALK 1", hall.roots(1, 0), -1);
        is("roots of TALK -1", hall.roots(-1, 0), -1);
        is("ROUND as many as NAMES", Due.talk("a", 5, "c:1;e:1;d:p", "v:t").roots(0, 1), -1);
    }

    private static void chanceIs(String saying, int prime, String law, long... want) {
        LiarHall hall = Due.talk(saying, prime, law, "v:t");
        String all = " of " + saying + " / " + prime + " / " + law;
        is("upper BEST" + all, hall.best(0, 0), want[0]);
        is("lower BEST" + all, hall.best(0, 1), want[1]);
        is("upper BOUND" + all, hall.bound(0, 0), want[2]);
        is("lower BOUND" + all, hall.bound(0, 1), want[3]);
    }

    /** A fraction without a common part, 1 at most; the upper number (0), the lower one (1). */
    private static void boundsOfBestAndBound() {
        String all = "c:1;e:1;d:";
        chanceIs("a", 3, all + "1", 1, 1, 1, 1);
        chanceIs("a", 3, all + "2", 1, 2, 1, 2);
        chanceIs("a&a", 3, all + "2", 1, 2, 1, 1);
        chanceIs("a&a", 3, all + "3", 2, 3, 2, 3);
        chanceIs("a&a", 5, all + "4", 1, 2, 1, 2);
        chanceIs("a&a&a", 5, all + "2", 1, 2, 1, 1);
        chanceIs("a|b", 5, all + "2", 3, 4, 1, 1);
        chanceIs("a|b|c", 5, all + "2", 7, 8, 1, 1);
        chanceIs("a|b", 5, all + "3", 5, 9, 2, 3);
        chanceIs("a|b", 5, all + "i+1", 1, 1, 1, 1);
        chanceIs("a|b", 5, all + "2+i", 2, 3, 5, 6);
        chanceIs("f", 5, all + "1", 1, 1, 1, 1);
        chanceIs("f", 5, all + "2", 1, 2, 1, 2);
        LiarHall hall = Due.talk("a", 5, all + "2", "v:t");
        for (int what : new int[] {Integer.MIN_VALUE, -1, 2, Integer.MAX_VALUE}) {
            is("best " + what, hall.best(0, what), -1);
            is("bound " + what, hall.bound(0, what), -1);
        }
        for (int talk : new int[] {Integer.MIN_VALUE, -1, 1, Integer.MAX_VALUE}) {
            is("best of " + talk, hall.best(talk, 0), -1);
            is("bound of " + talk, hall.bound(talk, 1), -1);
        }
    }

    /** Products 10^15 at most, D 1,000 at most, else it is not told. */
    private static void productsAndDiceNotTold() {
        String all = "c:1;e:1;d:";
        chanceIs("a", 1009, all + "999", 1, 999, 1, 999);
        chanceIs("a", 1009, all + "1000", 1, 1000, 1, 1000);
        chanceIs("a", 1009, all + "1001", -1, -1, -1, -1);
        chanceIs("b", 1009, all + "i=0?1000;d:1001", -1, -1, -1, -1);
        chanceIs("b", 1009, all + "i=0?1001;d:1000", -1, -1, -1, -1);
        chanceIs("a", LAST_PRIME, all + "p", -1, -1, -1, -1);
        chanceIs("e", 1009, all + "1000", 1, 1000, 1, 1000);
        chanceIs("a&b&c&d&e", 1009, all + "1000", 1000000000000000L - 999L * 999 * 999 * 999 * 999, 1000000000000000L, 1,
            200);
        chanceIs("f", 1009, all + "i<5?1000;d:1", 1, 1, 1, 1);
        chanceIs("f", 1009, all + "i<5?1000;d:2", -1, -1, -1, -1);
        chanceIs("f", 1009, all + "i>0?1000;d:1", 1, 1000, 1, 1000);
        chanceIs("f", 1009, all + "i>0?1000;d:2", -1, -1, -1, -1);
        // 27 times 37 is 999, 13 times 77 is 1001.
        chanceIs("f", 1009, all + "i<4?1000;d:i=4?27;d:37", 1, 37, 1, 37);
        chanceIs("f", 1009, all + "i<4?1000;d:i=4?13;d:77", -1, -1, -1, -1);
        chanceIs("f", 1009, all + "1000", -1, -1, -1, -1);
        is("m where the product is 10^15", Due.talk("f", 1009, all + "i<5?1000;d:1", "v:t").roots(0, 5), 1);
        is("m where it is above", Due.talk("f", 1009, all + "i<5?1000;d:2", "v:t").roots(0, 5), -1);
        is("m where D is 1,000", Due.talk("a", 1009, all + "1000", "v:t").roots(0, 0), 1);
        is("m where D is 1,001", Due.talk("a", 1009, all + "1001", "v:t").roots(0, 0), -1);
    }

    /** BEST, BOUND: 1, if e does not ask; m is D and STEEP by D is 1 in a ROUND where c does not ask. */
    private static void whatIsNotAsked() {
        chanceIs("a", 7, "c:1;d:p", 1, 1, 1, 1);
        chanceIs("a", 7, "e:1;d:p", 1, 1, 1, 1);
        chanceIs("b", 7, "c:i;e:1;d:p", 1, 1, 1, 1);
        chanceIs("b", 7, "c:1-i;e:1;d:p", 1, 1, 1, 1);
        chanceIs("b", 7, "c:0-1;e:0-1;d:p", 1, 7, 1, 7);
        chanceIs("a", 7, "c:p;e:p;d:p", 1, 7, 1, 7);
        chanceIs("a", 1009, "c:1;d:1001", -1, -1, -1, -1);
        chanceIs("a", 1009, "e:1;d:1001", -1, -1, -1, -1);
    }

    /** SMALL: the least PRIME above all STEEPS, up to 1,000; at most one by m, m 1 .. 1,000,000. */
    private static void boundsOfSmall() {
        LiarHall hall = new LiarHall();
        is("of nothing", hall.small(0, 0, 1), -1);
        Due.law(hall, "c:1;e:1;d:p");
        is("of no saying", hall.small(0, 0, 1), -1);
        Due.saying(hall, "a");
        for (int m : new int[] {Integer.MIN_VALUE, -1, 0, 1000001, Integer.MAX_VALUE}) {
            is("m " + m, hall.small(0, 0, m), -1);
        }
        for (int number : new int[] {Integer.MIN_VALUE, -1, 1, Integer.MAX_VALUE}) {
            is("saying " + number, hall.small(number, 0, 1), -1);
            is("law " + number, hall.small(0, number, 1), -1);
        }
        is("m 1", hall.small(0, 0, 1), 3);
        is("m 3", hall.small(0, 0, 3), 3);
        is("m 4", hall.small(0, 0, 4), 5);
        is("m 996", hall.small(0, 0, 996), 997);
        is("m 997", hall.small(0, 0, 997), 997);
        is("m 998", hall.small(0, 0, 998), -1);
        is("m 1,000,000", hall.small(0, 0, 1000000), -1);
        Due.saying(hall, "a&a");
        Due.saying(hall, "a&a&a");
        Due.saying(hall, Due.times("b&", 99) + "b");
        is("above STEEP 2", hall.small(1, 0, 1), 3);
        is("above STEEP 3", hall.small(2, 0, 1), 5);
        is("above STEEP 100", hall.small(3, 0, 1), 101);
        // 100 by p.
        is("at most 1 by 9", hall.small(3, 0, 9), 907);
        is("at most 1 by 10", hall.small(3, 0, 10), -1);
        Due.law(hall, "c:1;e:1;d:2");
        is("two dice", hall.small(0, 1, 2), 3);
        is("two dice", hall.small(0, 1, 3), -1);
        Due.law(hall, "c:1;e:p>900?1;d:p");
        is("e asks from 907 on", hall.small(0, 2, 2), 907);
        is("e asks from 907 on", hall.small(0, 2, 1), 3);
        Due.law(hall, "c:1;e:1;d:p<990?1001;d:p");
        is("D is the PRIME at most", hall.small(0, 3, 1), 3);
        // By six D of p the product is 10^15 at most up to 313.
        Due.saying(hall, "f");
        is("told by 313", hall.small(4, 0, 312), 313);
        is("not told by 317", hall.small(4, 0, 314), -1);
    }

    /** Turns as bits 0 .. 63 (1 all, 0 some). NONE: no such ones. */
    private static void boundsOfTurns() {
        LiarHall hall = new LiarHall();
        is("won of none", hall.won(0, 0), -1);
        is("game of none", hall.game(0, 0, 7), -1);
        Due.saying(hall, "f|!f");
        Due.saying(hall, "f");
        for (int turns : new int[] {Integer.MIN_VALUE, -1, 64, Integer.MAX_VALUE}) {
            is("won by " + turns, hall.won(0, turns), -1);
            is("game by " + turns, hall.game(0, turns, 7), -1);
        }
        for (int number : new int[] {Integer.MIN_VALUE, -1, 2, Integer.MAX_VALUE}) {
            is("won of " + number, hall.won(number, 0), -1);
            is("game of " + number, hall.game(number, 0, 7), -1);
        }
        is("won, all some", hall.won(0, 0), 1);
        is("won, all all", hall.won(0, 63), 1);
        is("f, all but f", hall.won(1, 31), 1);
        is("f, f alone all", hall.won(1, 32), 0);
        is("f, all", hall.won(1, 63), 0);
        is("VALUE of f, f some", hall.game(1, 0, 7), 1);
        is("VALUE of f, f all", hall.game(1, 63, 7), 0);
        // All six NAMES are played.
        Due.point(hall, 1, 1, 1, 1, 1, 3);
        is("f played", hall.game(1, 63, 7), 3);
        hall.clear();
        Due.saying(hall, "a");
        is("a some", hall.won(2, 62), 1);
        is("a all", hall.won(2, 1), 0);
    }

    /** STEEP of a NAME at stage k (0 .. NAMES). NONE: no such ones. */
    private static void boundsOfStages() {
        LiarHall hall = new LiarHall();
        is("of none", hall.steep(0, 0, 0, false), -1);
        Due.saying(hall, "a&a&a|c");
        int[][] plain = {{12, 0, 1}, {12, 0, 1}, {6, 0, 1}, {3, 0, 1}};
        int[][] low = {{2, 0, 1}, {2, 0, 1}, {2, 0, 1}, {3, 0, 1}};
        for (int k = 0; k <= 3; k++) {
            for (int name = 0; name < 3; name++) {
                is("STEEP of " + name + " at " + k, hall.steep(0, name, k, false), plain[k][name]);
                is("LOW STEEP of " + name + " at " + k, hall.steep(0, name, k, true), low[k][name]);
            }
        }
        for (int none : new int[] {Integer.MIN_VALUE, -1, 4, Integer.MAX_VALUE}) {
            is("k " + none, hall.steep(0, 0, none, false), -1);
            is("k " + none, hall.steep(0, 0, none, true), -1);
        }
        for (int none : new int[] {Integer.MIN_VALUE, -1, 3, Integer.MAX_VALUE}) {
            is("NAME " + none, hall.steep(0, none, 0, false), -1);
            is("NAME " + none, hall.steep(0, none, 0, true), -1);
        }
        for (int none : new int[] {Integer.MIN_VALUE, -1, 1, Integer.MAX_VALUE}) {
            is("saying " + none, hall.steep(none, 0, 0, false), -1);
        }
        Due.saying(hall, Due.times("a&", 98) + "a|f");
        is("99 times 2 five times", hall.steep(1, 0, 0, false), 99 * 32);
        is("LOW of 99", hall.steep(1, 0, 0, true), 2);
        is("99 at the last stage", hall.steep(1, 0, 6, true), 99);
    }

    /** NETS of 2 .. 6 points, twelve at most. NONE: out of bounds, edges beyond its points. */
    private static void boundsOfNets() {
        LiarHall hall = new LiarHall();
        for (int points : new int[] {Integer.MIN_VALUE, -2, -1, 0, 1, 7, 8, Integer.MAX_VALUE}) {
            is("points " + points, hall.net(points, 0), -1);
        }
        int[] most = {0, 0, 1, 7, 63, 1023, 32767};
        int number = 0;
        for (int points = 2; points <= 6; points++) {
            is("edges of -1", hall.net(points, -1), -1);
            is("the least edges", hall.net(points, Integer.MIN_VALUE), -1);
            is("edges beyond " + points, hall.net(points, most[points] + 1), -1);
            is("edges far beyond " + points, hall.net(points, Integer.MAX_VALUE), -1);
            is("no net", hall.count(4), number);
            is("no edges of " + points, hall.net(points, 0), number);
            is("all edges of " + points, hall.net(points, most[points]), number + 1);
            is("not ALIKE", hall.alike(number, number + 1), 0);
            is("ALIKE to itself", hall.alike(number + 1, number + 1), 1);
            number += 2;
        }
        is("an 11th", hall.net(2, 0), 10);
        is("a 12th", hall.net(2, 1), 11);
        is("a 13th", hall.net(2, 1), -1);
        is("there are twelve", hall.count(4), 12);
        is("of unlike points", hall.alike(0, 2), 0);
        is("of the last", hall.alike(1, 11), 1);
        for (int none : new int[] {Integer.MIN_VALUE, -1, 12, Integer.MAX_VALUE}) {
            is("alike of " + none, hall.alike(none, 0), -1);
            is("alike to " + none, hall.alike(0, none), -1);
        }
    }

    /** SHUFFLE: where a point goes, by the least such row. NONE: not ALIKE, no such ones. */
    private static void boundsOfShuffles() {
        LiarHall hall = new LiarHall();
        is("of none", hall.shuffle(0, 0, 0), -1);
        hall.net(6, 0);
        hall.net(6, 0x7fff);
        // The edge 0 1 (place 0) and the edge 4 5 (place 14).
        hall.net(6, 1);
        hall.net(6, 1 << 14);
        hall.net(5, 1);
        int[] row = {4, 5, 0, 1, 2, 3};
        for (int point = 0; point < 6; point++) {
            is("the least row of none", hall.shuffle(0, 0, point), point);
            is("the least row of all", hall.shuffle(1, 1, point), point);
            is("the least row", hall.shuffle(2, 3, point), row[point]);
            is("not ALIKE", hall.shuffle(0, 1, point), -1);
            is("of unlike points", hall.shuffle(2, 4, point), -1);
            is("of unlike points", hall.shuffle(4, 2, point), -1);
        }
        for (int point : new int[] {Integer.MIN_VALUE, -1, 6, Integer.MAX_VALUE}) {
            is("point " + point, hall.shuffle(2, 3, point), -1);
        }
        is("point 4 of five", hall.shuffle(4, 4, 4), 4);
        is("point 5 of five", hall.shuffle(4, 4, 5), -1);
        for (int none : new int[] {Integer.MIN_VALUE, -1, 5, Integer.MAX_VALUE}) {
            is("shuffle of " + none, hall.shuffle(none, 0, 0), -1);
            is("shuffle to " + none, hall.shuffle(0, none, 0), -1);
        }
    }

    /** UNLIKE: so many rounds (1 .. 30). NONE: no such ones, one and the same, of unlike points, out of bounds. */
    private static void boundsOfUnlike() {
        LiarHall hall = new LiarHall();
        is("of none", hall.unlike(0, 1, 0, 1), -1);
        hall.net(3, 1);
        hall.net(3, 4);
        hall.net(3, 7);
        hall.net(4, 1);
        for (int rounds : new int[] {Integer.MIN_VALUE, -1, 0, 31, Integer.MAX_VALUE}) {
            is("rounds " + rounds, hall.unlike(0, 2, 5, rounds), -1);
        }
        is("one and the same", hall.unlike(0, 0, 5, 1), -1);
        is("of unlike points", hall.unlike(0, 3, 5, 1), -1);
        for (int none : new int[] {Integer.MIN_VALUE, -1, 4, Integer.MAX_VALUE}) {
            is("unlike of " + none, hall.unlike(none, 0, 5, 1), -1);
            is("unlike to " + none, hall.unlike(0, none, 5, 1), -1);
        }
        for (long seed : new long[] {0, 1, -1, Long.MIN_VALUE, Long.MAX_VALUE, 5}) {
            BigInteger x = BigInteger.valueOf(seed);
            int firsts = 0;
            for (int rounds = 1; rounds <= 30; rounds++) {
                x = next(x, 0);
                firsts += 1 - drawOf(x, 2);
                is("not ALIKE", hall.unlike(0, 2, seed, rounds), rounds);
                is("ALIKE, lower first", hall.unlike(0, 1, seed, rounds), firsts);
                is("ALIKE, lower second", hall.unlike(1, 0, seed, rounds), rounds - firsts);
                if (rounds % 10 == 0) {
                    hall = hallOfNets();
                }
            }
        }
    }

    private static LiarHall hallOfNets() {
        LiarHall hall = new LiarHall();
        hall.net(3, 1);
        hall.net(3, 4);
        hall.net(3, 7);
        hall.net(4, 1);
        return hall;
    }

    /** TALES (0), WORD (1) of a table (0 .. 2^36 - 1). NONE: out of bounds. */
    private static void boundsOfRooms() {
        LiarHall hall = new LiarHall();
        long most = (1L << 36) - 1;
        long[] none = {Long.MIN_VALUE, -1, most + 1, 1L << 37, 1L << 40, Long.MAX_VALUE};
        for (long table : none) {
            is("TALES of " + table, hall.rooms(table, 0), -1);
            is("WORD of " + table, hall.rooms(table, 1), -1);
        }
        is("TALES of 0", hall.rooms(0, 0), 0);
        is("WORD of 0", hall.rooms(0, 1), 0);
        is("TALES of the most", hall.rooms(most, 0), 9);
        is("WORD of the most", hall.rooms(most, 1), 9);
        is("TALES of the first place", hall.rooms(1, 0), 1);
        is("TALES of the last place", hall.rooms(1L << 35, 0), 1);
        is("WORD of the last place", hall.rooms(1L << 35, 1), 1);
        // The places at which the second's answer is the first's question, 2 taken as 0: 6 by TALES, all by a WORD.
        long second = 0;
        for (int place = 0; place < 36; place++) {
            second |= place % 2 == place / 12 % 2 ? 1L << place : 0;
        }
        is("TALES of what the second can't know", hall.rooms(second, 0), 6);
        is("WORD of what the second can't know", hall.rooms(second, 1), 9);
        for (int what : new int[] {Integer.MIN_VALUE, -1, 2, Integer.MAX_VALUE}) {
            is("rooms " + what, hall.rooms(most, what), -1);
        }
    }

    /** BOOKS of 2 to the k cells, k 1 .. 4 (bits 0 .. 2 to the cells - 1). NONE: out of bounds. */
    private static void boundsOfBooks() {
        LiarHall hall = new LiarHall();
        for (int k : new int[] {Integer.MIN_VALUE, -1, 0, 5, 6, 31, 32, 33, Integer.MAX_VALUE}) {
            for (int what = 0; what < 4; what++) {
                is("book of k " + k, hall.book(k, 0, what), -1);
            }
            is("mended of k " + k, hall.mended(k, 0, 0), -1);
        }
        int[] most = {0, 3, 15, 255, 65535};
        int[] near = {0, 1, 2, 4, 8};
        for (int k = 1; k <= 4; k++) {
            is("LINEAR " + k, hall.book(k, 0, 0), 1);
            is("CAUGHT none " + k, hall.book(k, 0, 1), 0);
            is("NEAR none " + k, hall.book(k, 0, 2), 0);
            is("NEAREST none " + k, hall.book(k, 0, 3), 0);
            is("all 1 of " + k, hall.book(k, most[k], 0), 0);
            is("all 1 CAUGHT by all of " + k, hall.book(k, most[k], 1), (1 << k) * (1 << k));
            is("all 1 NEAR of " + k, hall.book(k, most[k], 2), near[k]);
            for (int bits : new int[] {Integer.MIN_VALUE, -1, most[k] + 1, Integer.MAX_VALUE}) {
                for (int what = 0; what < 4; what++) {
                    is("book of bits " + bits, hall.book(k, bits, what), -1);
                }
                is("mended of bits " + bits, hall.mended(k, bits, 0), -1);
            }
            for (int what : new int[] {Integer.MIN_VALUE, -1, 4, Integer.MAX_VALUE}) {
                is("book " + what, hall.book(k, 0, what), -1);
            }
        }
        // All LINEAR ones but 0 are as near to all 1: the least of them is that of the two highest bits of a place.
        is("NEAREST to all 1 of 1", hall.book(1, 3, 3), 2);
        is("NEAREST to all 1 of 2", hall.book(2, 15, 3), 6);
        is("NEAREST to all 1 of 3", hall.book(3, 255, 3), 0x3c);
        is("NEAREST to all 1 of 4", hall.book(4, 65535, 3), 0x0ff0);
        is("NEAREST, 0 of a tie", hall.book(1, 1, 3), 0);
    }

    /** MENDED at a place z: 1, if of all v more than half are unlike. NONE: out of bounds. */
    private static void boundsOfMending() {
        LiarHall hall = new LiarHall();
        int[] linear = {0, 2, 10, 0xaa, 0xaaaa};
        for (int k = 1; k <= 4; k++) {
            for (int place : new int[] {Integer.MIN_VALUE, -1, 1 << k, Integer.MAX_VALUE}) {
                is("place " + place + " of " + k, hall.mended(k, linear[k], place), -1);
            }
            for (int place = 0; place < 1 << k; place++) {
                is("a LINEAR one is itself at " + place, hall.mended(k, linear[k], place), place & 1);
                is("one of no cells at " + place, hall.mended(k, 0, place), 0);
            }
        }
        // At place 1 the cells 2 and 3 are unlike, 0 and 1 are not: two of four v.
        is("half of four", hall.mended(2, 8, 1), 0);
        is("all alike", hall.mended(2, 8, 0), 0);
        // At place 1 the cells 0 and 1 alone are alike.
        is("six of eight", hall.mended(3, 0xaa ^ 2, 1), 1);
        is("six of eight", hall.mended(3, 0xaa ^ 1, 1), 1);
        is("half of eight", hall.mended(3, 0x0a, 1), 0);
    }

    /** LEAST CAUGHT of k 1 .. 3: the fewest pairs (0), the book (1). NONE: out of bounds, there is none. */
    private static void boundsOfLeast() {
        LiarHall hall = new LiarHall();
        for (int k : new int[] {Integer.MIN_VALUE, -1, 0, 4, 5, 32, 33, Integer.MAX_VALUE}) {
            is("least of k " + k, hall.least(k, 0), -1);
            is("least book of k " + k, hall.least(k, 1), -1);
        }
        for (int k = 1; k <= 3; k++) {
            for (int what : new int[] {Integer.MIN_VALUE, -1, 2, Integer.MAX_VALUE}) {
                is("least " + what, hall.least(k, what), -1);
            }
            int book = hall.least(k, 1);
            is("it is not LINEAR", hall.book(k, book, 0), 0);
            is("its pairs", hall.book(k, book, 1), hall.least(k, 0));
            for (int bits = 0; bits < book; bits++) {
                int caught = hall.book(k, bits, 1);
                DUE.is("none below is as few", caught == 0 || caught > hall.least(k, 0), true);
            }
        }
        is("pairs of 1", hall.least(1, 0), 4);
        is("book of 1", hall.least(1, 1), 1);
        is("pairs of 2", hall.least(2, 0), 6);
        is("book of 2", hall.least(2, 1), 2);
    }

    /** count: NONE for others. */
    private static void boundsOfCount() {
        LiarHall hall = new LiarHall();
        for (int what : new int[] {Integer.MIN_VALUE, -1, 7, Integer.MAX_VALUE}) {
            is("count " + what, hall.count(what), -1);
        }
        for (int what = 0; what < 7; what++) {
            is("count " + what + " of a new object", hall.count(what), 0);
        }
    }
}
