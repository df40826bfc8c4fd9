/** Each promise by answers reckoned by hand: ordinary ones, the edges that the document names, and what is refused. */
public final class PromiseTest {
    private static final Due DUE = new Due();

    public static void main(String[] args) {
        newObject();
        feedAndEnd();
        faults();
        sayings();
        truths();
        pointAndWorths();
        sums();
        primes();
        curves();
        laws();
        giants();
        talks();
        runs();
        runsOfManyTalks();
        longTalk();
        giveUps();
        fixedAndTries();
        lawLetters();
        giantLetters();
        reckoning();
        spents();
        odds();
        bests();
        notTold();
        smalls();
        games();
        steeps();
        nets();
        unlikes();
        rooms();
        books();
        counts();
        DUE.close("PromiseTest");
    }

    private static void is(String call, long got, long want) {
        DUE.is(call, got, want);
    }

    /** Promise 1. */
    private static void newObject() {
        LiarHall hall = new LiarHall();
        is("NONE", LiarHall.NONE, -1);
        for (int what = 0; what < 7; what++) {
            is("count " + what + " of a new hall", hall.count(what), 0);
        }
        is("latest of a new hall", hall.latest(0), -1);
        is("latest of a new hall", hall.latest(3), -1);
        is("clear of a new hall", hall.clear(), 0);
        is("draw of a new hall", hall.draw(0), -1);
        DUE.noValue("value of a new hall", hall, 0, 0);
        LiarHall other = new LiarHall();
        Due.saying(other, "a");
        is("another hall's sayings", hall.count(0), 0);
    }

    /** Promises 2 and 3. */
    private static void feedAndEnd() {
        LiarHall hall = new LiarHall();
        is("feed of zeros", hall.feed(0, 0, 0, 0, 0), 0);
        is("feed of bytes among zeros", hall.feed(0x00610000, 0x00007c00, 0x62, 0, 0), 3);
        is("fault of a|b", hall.fault(0), -1);
        is("feed of high bytes", hall.feed(-1, 0, 0, 0, 0), 7);
        is("fault at a high byte", hall.fault(0), 3);
        DUE.is("end 8", hall.end(8), false);
        DUE.is("end -1", hall.end(-1), false);
        is("bytes", hall.count(6), 7);
        DUE.is("end 7", hall.end(7), true);
        is("bytes", hall.count(6), 7);
        DUE.is("end 3", hall.end(3), true);
        is("fault of a|b again", hall.fault(0), -1);
        is("saying a|b", hall.saying(), 0);
        for (int many = 20; many <= 200; many += 20) {
            is("feed up to 200", hall.feed(0x61616161, 0x61616161, 0x61616161, 0x61616161, 0x61616161), many);
        }
        is("feed of one too many", hall.feed(0, 0, 0x61, 0, 0), -1);
        is("feed of nothing to the full tape", hall.feed(0, 0, 0, 0, 0), 200);
        hall.end(199);
        is("feed of two too many", hall.feed(0x6161, 0, 0, 0, 0), -1);
        is("bytes", hall.count(6), 199);
        is("feed of the last", hall.feed(0, 0, 0, 0, 0x61), 200);
        hall.end(196);
        is("feed of five bytes to 196", hall.feed(0x01000000, 0x00010000, 0x00000100, 0x00000001, 0x80000000), -1);
        hall.end(195);
        is("feed of five bytes to 195", hall.feed(0x01000000, 0x00010000, 0x00000100, 0x00000001, 0x80000000), 200);
    }

    private static void faultIs(int sort, String text, int want) {
        is("fault(" + sort + ") of '" + text + "'", Due.faultOf(new LiarHall(), sort, text), want);
    }

    /** Promise 4. */
    private static void faults() {
        faultIs(0, "", 0);
        faultIs(0, "   ", 3);
        faultIs(0, " ( a | ! b ) & c ", -1);
        faultIs(0, "a b", 2);
        faultIs(0, "a||b", 2);
        faultIs(0, "(a|b", 4);
        faultIs(0, "()", 1);
        faultIs(0, "a!", 1);
        faultIs(0, "A", 0);
        faultIs(0, "g", 0);
        faultIs(0, "`", 0);
        faultIs(0, "!!!!((((a))))", -1);
        faultIs(0, "!!!!((((!a))))", 8);
        faultIs(0, "((((((((a))))))))&!!!!!!!!b", -1);
        faultIs(0, "(((((((((", 8);
        faultIs(1, "", 0);
        faultIs(1, "c", 1);
        faultIs(1, "c:", 2);
        faultIs(1, " c : 1 ; d : p ", -1);
        faultIs(1, "c:1;", 4);
        faultIs(1, "c:1?2", 3);
        faultIs(1, "c:1=1", 5);
        faultIs(1, "c:1=1;", 5);
        faultIs(1, "c:1=1=1", 5);
        faultIs(1, "c:(1=1)", 7);
        faultIs(1, "c:(1)", 4);
        faultIs(1, "c:!1?1", 4);
        faultIs(1, "c:1=1&!(i<2|k>3)?[n+p]*2", -1);
        faultIs(1, "c:1=1)", 5);
        faultIs(1, "c:1234", -1);
        faultIs(1, "c:12345", 6);
        faultIs(1, "c:12 3", 5);
        faultIs(1, "c:00000", 6);
        faultIs(1, "c:1-", 4);
        faultIs(1, "c:-1", 2);
        faultIs(1, "c:[1", 4);
        faultIs(1, "c:[1=1]", 4);
        faultIs(1, "c:[[[[[[1]]]]]]", -1);
        faultIs(1, "c:[[[[[[[1]]]]]]]", 8);
        faultIs(1, "c:1=[[[[[[1]]]]]]?1", -1);
        faultIs(1, "c:!!!!!!!1=1?1", 8);
        faultIs(1, "c:(((((((1=1)))))))?1", 8);
        faultIs(1, "c:!!!(((1=1)))?1", -1);
        faultIs(1, "c:!!!((([1]=1)))?1", 8);
        faultIs(1, "c:!!!((1=[1]))?[[[[[[1]]]]]]", -1);
        faultIs(1, "c:t", 2);
        faultIs(1, "s:1", 0);
        faultIs(2, "c:1", 0);
        faultIs(2, "s:k", 2);
        faultIs(2, "v:t+c-w*l/i+j-n*p/y", -1);
        faultIs(2, "v:j=0?t;v:w", -1);
        LiarHall hall = new LiarHall();
        is("no such sort", hall.fault(3), -2);
        is("no such sort", hall.fault(-1), -2);
    }

    /** Promises 5 and 6. */
    private static void sayings() {
        LiarHall hall = new LiarHall();
        Due.tell(hall, "a&");
        is("a faulty saying", hall.saying(), -1);
        is("the tape stays", hall.count(6), 2);
        Due.more(hall, "d");
        is("a&d", hall.saying(), 0);
        is("the tape is empty", hall.count(6), 0);
        is("no empty saying", hall.saying(), -1);
        is("!(a|!a)&a", Due.saying(hall, " !( a|!a )&a"), 1);
        long[] first = {4, 1, 4, 1, 0, 0, 1, 0, 0, -1};
        long[] second = {1, 4, 0, 3, 0, 0, 0, 0, 0, -1};
        for (int what = 0; what < first.length; what++) {
            is("said 0 " + what, hall.said(0, what), first[what]);
            is("said 1 " + what, hall.said(1, what), second[what]);
        }
        is("said of none", hall.said(2, 0), -1);
        is("said of -1", hall.said(-1, 0), -1);
        is("said -1", hall.said(0, -1), -1);
        String long100 = Due.times("a&", 99) + "f";
        is("200 bytes less one", Due.saying(hall, long100), 2);
        is("STEEP of 99", hall.said(2, 3), 99);
        is("WORK of 99", hall.said(2, 1), 99);
        is("COUNT of a and f", hall.said(2, 2), 16);
        for (int number = 3; number < 20; number++) {
            is("saying " + number, Due.saying(hall, "b"), number);
        }
        is("a 21st saying", Due.saying(hall, "b"), -1);
        is("the tape stays", hall.count(6), 1);
        is("sayings", hall.count(0), 20);
        is("& is nearer than |", hall.said(0, 2), 4);
    }

    /** Promise 7. */
    private static void truths() {
        LiarHall hall = new LiarHall();
        Due.saying(hall, "a|b&!c");
        int[] want = {0, 1, 1, 1, 0, 1, 0, 1};
        for (int corner = 0; corner < 64; corner++) {
            is("truth at " + corner, hall.truth(0, corner), want[corner % 8]);
        }
        is("truth at 64", hall.truth(0, 64), -1);
        is("truth at -1", hall.truth(0, -1), -1);
        is("truth of none", hall.truth(1, 0), -1);
    }

    /** Promises 8, 9 and 10. */
    private static void pointAndWorths() {
        LiarHall hall = new LiarHall();
        Due.saying(hall, "!a|b&b");
        is("lay below 0", hall.lay(-1), -1);
        is("lay 10", hall.lay(10), 0);
        is("too few", hall.worth(0, 7), -1);
        is("lay 0", hall.lay(0), 1);
        // !a is 1 - 10, b & b is 0.
        is("worth", hall.worth(0, 7), 5);
        is("worth", hall.worth(0, 1000000007), 999999998);
        is("clear", hall.clear(), 2);
        Due.point(hall, 2, 3, 8);
        // !a = -1, b&b = 9: -1 + 9 + 9 = 17.
        is("worth of more numbers", hall.worth(0, 13), 4);
        is("worth modulo 3", hall.worth(0, 3), 2);
        is("worth modulo 2", hall.worth(0, 2), -1);
        is("worth modulo 9", hall.worth(0, 9), -1);
        is("worth modulo -7", hall.worth(0, -7), -1);
        is("worth modulo 1000000009", hall.worth(0, 1000000009), -1);
        is("worth of none", hall.worth(1, 7), -1);
        is("clear", hall.clear(), 3);
        for (int number = 0; number < 6; number++) {
            is("lay", hall.lay(Integer.MAX_VALUE), number);
        }
        is("a seventh", hall.lay(1), -1);
        is("clear", hall.clear(), 6);
        is("clear", hall.clear(), 0);
        Due.point(hall, 1000000006, 1000000006);
        // !a = 2, b&b = 1: 2 + 1 - 2.
        is("worth of -1", hall.worth(0, 1000000007), 1);
    }

    /** Promise 11. */
    private static void sums() {
        LiarHall hall = new LiarHall();
        Due.saying(hall, "a|b|c");
        is("sum over all", hall.sum(0, 5), 2);
        hall.lay(2);
        // 1 less (1 - 2)(1 - b)(1 - c): 2 at b = c = 0, else 1.
        is("sum over b, c", hall.sum(0, 11), 5);
        hall.lay(0);
        is("sum over c", hall.sum(0, 11), 3);
        hall.lay(1);
        hall.lay(7);
        is("sum over none", hall.sum(0, 11), 1);
        is("sum modulo 4", hall.sum(0, 4), -1);
        is("sum modulo 2", hall.sum(0, 2), -1);
        is("sum of none", hall.sum(1, 11), -1);
    }

    /** Promise 12. */
    private static void primes() {
        LiarHall hall = new LiarHall();
        for (int number = -5; number < 20000; number++) {
            boolean prime = number > 1;
            for (int by = 2; by * by <= number; by++) {
                prime &= number % by != 0;
            }
            DUE.is("prime " + number, hall.prime(number), prime);
        }
        // The last nine pass Miller and Rabin's test by two of 2, 7 and 61.
        int[] strong = {2047, 1373653, 25326001, 3215031, 29341, 561, 999999999, 1000000005, 25 * 40000001, 916327, 2205967,
            967714021, 314821, 2269093, 348989101, 79381, 178709, 721801};
        for (int number : strong) {
            DUE.is("prime " + number, hall.prime(number), false);
        }
        DUE.is("prime 999999937", hall.prime(999999937), true);
        DUE.is("prime 1000000007", hall.prime(1000000007), true);
        DUE.is("prime beyond the bound", hall.prime(1000000009), false);
        DUE.is("prime beyond the bound", hall.prime(Integer.MAX_VALUE), false);
        DUE.is("prime below 0", hall.prime(Integer.MIN_VALUE), false);
    }

    /** Promise 13. */
    private static void curves() {
        LiarHall hall = new LiarHall();
        is("curve through none", hall.curve(7, 0), -1);
        Due.point(hall, 9);
        is("curve through one", hall.curve(7, 100), 2);
        Due.point(hall, 0, 1, 4);
        for (int x = 0; x < 30; x++) {
            is("square of " + x, hall.curve(11, x), x * x % 11);
        }
        is("square of a rest", hall.curve(1000000007, 1000000008), 1);
        is("square modulo 5", hall.curve(5, 1000000002), 4);
        is("as many as the prime", hall.curve(3, 0), -1);
        is("x below 0", hall.curve(11, -1), -1);
        is("no prime", hall.curve(12, 1), -1);
        is("2 is no PRIME", hall.curve(2, 0), -1);
        Due.point(hall, 1, 1, 1, 1, 1);
        is("five modulo 5", hall.curve(5, 0), -1);
        is("five modulo 7", hall.curve(7, 6), 1);
    }

    /** Promise 14. */
    private static void laws() {
        LiarHall hall = new LiarHall();
        Due.tell(hall, "d:");
        is("a faulty law", hall.law(), -1);
        is("the tape stays", hall.count(6), 2);
        Due.more(hall, "p");
        is("a law", hall.law(), 0);
        is("the tape is empty", hall.count(6), 0);
        is("a giant is no law", Due.law(hall, "s:1"), -1);
        for (int number = 1; number < 12; number++) {
            is("law", Due.law(hall, "e:1"), number);
        }
        is("a 13th law", Due.law(hall, "e:1"), -1);
        is("the tape stays", hall.count(6), 3);
        is("laws", hall.count(1), 12);
    }

    /** Promise 15. */
    private static void giants() {
        LiarHall hall = new LiarHall();
        is("a faulty giant", Due.giant(hall, "v"), -1);
        is("the tape stays", hall.count(6), 1);
        is("a law is no giant", Due.giant(hall, "c:1"), -1);
        for (int number = 0; number < 12; number++) {
            is("giant", Due.giant(hall, "v:t;s:c"), number);
        }
        is("the tape is empty", hall.count(6), 0);
        is("a 13th giant", Due.giant(hall, "v:t"), -1);
        is("giants", hall.count(2), 12);
        is("laws", hall.count(1), 0);
    }

    /** Promise 16. */
    private static void talks() {
        LiarHall hall = new LiarHall();
        Due.saying(hall, "a&b&b&b");
        Due.law(hall, "c:1");
        Due.giant(hall, "v:t");
        is("PRIME as STEEP", hall.talk(0, 3, 0, 0), -1);
        is("PRIME 2", hall.talk(0, 2, 0, 0), -1);
        is("no PRIME", hall.talk(0, 15, 0, 0), -1);
        is("no such saying", hall.talk(1, 5, 0, 0), -1);
        is("no such law", hall.talk(0, 5, 1, 0), -1);
        is("no such giant", hall.talk(0, 5, 0, 1), -1);
        is("below 0", hall.talk(0, 5, 0, -1), -1);
        for (int number = 0; number < 12; number++) {
            is("talk", hall.talk(0, 5, 0, 0), number);
        }
        is("a 13th talk", hall.talk(0, 5, 0, 0), -1);
        is("talks", hall.count(3), 12);
    }

    /** Promises 17, 19, 20 and 21: a&b modulo 7, seed 0. */
    private static void runs() {
        LiarHall hall = Due.talk("a&b", 7, "c:1;e:1;d:p", "s:c;v:t");
        long x = 1442695040888963407L;
        int first = (int) ((x >>> 33) % 7);
        int second = (int) ((x * 6364136223846793005L + 1442695040888963407L >>> 33) % 7);
        is("run", hall.run(0, 0, 0), 1);
        is("claim", hall.latest(0), 1);
        is("not given up", hall.latest(1), -1);
        is("claim at the end", hall.latest(2), first * second % 7);
        is("draws", hall.latest(3), 2);
        is("no such", hall.latest(4), -1);
        is("no such", hall.latest(-1), -1);
        is("first draw", hall.draw(0), first);
        is("second draw", hall.draw(1), second);
        is("no draw", hall.draw(2), -1);
        is("no draw", hall.draw(-1), -1);
        is("value 0 0", hall.value(0, 0), 0);
        is("value 0 1", hall.value(0, 1), 1);
        is("value 1 0", hall.value(1, 0), 0);
        is("value 1 1", hall.value(1, 1), first);
        DUE.noValue("value 0 2", hall, 0, 2);
        DUE.noValue("value 2 0", hall, 2, 0);
        DUE.noValue("value -1 0", hall, -1, 0);
        DUE.noValue("value 0 -1", hall, 0, -1);
        is("run of no talk", hall.run(1, 0, 0), -1);
        is("run by y below 0", hall.run(0, 0, -1), -1);
        is("run by y too high", hall.run(0, 0, 1000001), -1);
        is("the latest stays", hall.draw(0), first);
        is("run by the highest y", hall.run(0, -1, 1000000), 1);
        is("run by -1", hall.draw(0), (int) ((1442695040888963407L - 6364136223846793005L >>> 33) % 7));
    }

    /** Nothing of a run is left in the next one, of the same TALK or of another. */
    private static void runsOfManyTalks() {
        LiarHall hall = Due.talk("a&b", 7, "c:1;e:1;d:p", "s:c+y;v:t");
        Due.saying(hall, "a|a|b");
        hall.talk(1, 11, 0, 0);
        for (int turn = 0; turn < 3; turn++) {
            is("run of the first", hall.run(0, turn, 0), 1);
            is("its value", hall.value(0, 1), 1);
            is("run of the second", hall.run(1, turn, 0), 1);
            is("its value", hall.value(0, 1), 2);
            is("given up at once", hall.run(0, turn, 1), 0);
            is("no draws", hall.latest(3), 0);
            is("no draw", hall.draw(0), -1);
            DUE.noValue("no second ROUND", hall, 1, 0);
            is("odds of the second", hall.odds(1, 0, 0), 121);
            is("odds of the first", hall.odds(0, 0, 0), 49);
        }
    }

    /** A STEEP of 100 is the most. */
    private static void longTalk() {
        LiarHall hall = Due.talk(Due.times("a&", 99) + "a", 101, "c:1;e:1;d:p", "s:c;v:t");
        is("run", hall.run(0, 4, 0), 1);
        is("value at 100", hall.value(0, 100), 1);
        is("value at 0", hall.value(0, 0), 0);
        DUE.noValue("value at 101", hall, 0, 101);
        is("odds", hall.odds(0, 0, 0), 101);
        is("roots", hall.roots(0, 0), 100);
        hall = Due.talk(Due.times("a&", 99) + "a", 1000000007, "c:1;e:1;d:p", "s:c;v:t");
        is("run", hall.run(0, 4, 0), 1);
        DUE.is("a far draw", hall.draw(0) > 100, true);
        is("fixed", hall.fixed(0, 0), 1);
    }

    /** Where the asker gives up; NAMES that stand nowhere have a CURVE of one value. */
    private static void giveUps() {
        LiarHall hall = Due.talk("b", 5, "c:1;e:1;d:1", "s:c;v:t");
        is("run", hall.run(0, 1, 0), 1);
        is("COUNT of b", hall.latest(0), 2);
        is("one value", hall.value(0, 0), 1);
        DUE.noValue("no second value", hall, 0, 1);
        is("claim at b = 0", hall.latest(2), 0);
        hall = Due.talk("b", 5, "c:i;e:1;d:2", "s:1;v:3");
        is("not asked in ROUND 0, given up in ROUND 1", hall.run(0, 1, 0), 0);
        is("ROUND", hall.latest(1), 1);
        is("first claim", hall.latest(0), 1);
        is("claim", hall.latest(2), 3);
        is("draws", hall.latest(3), 1);
        is("said in ROUND 1", hall.value(1, 1), 3);
        is("no draw", hall.draw(1), -1);
        hall = Due.talk("a&b", 5, "e:1;d:1", "s:1;v:3");
        is("given up at the end", hall.run(0, 1, 0), 0);
        is("ROUND as many as NAMES", hall.latest(1), 2);
        is("draws", hall.latest(3), 2);
        hall = Due.talk("a&b", 5, "c:0;d:1", "s:1;v:3");
        is("nothing asked", hall.run(0, 1, 0), 1);
        hall = Due.talk("a&b", 5, "c:0-1;d:1", "s:1;v:3");
        is("c below 0 asks", hall.run(0, 1, 0), 0);
        hall = Due.talk("a&b", 5, "c:p;d:1", "s:1;v:3");
        is("c of the PRIME asks", hall.run(0, 1, 0), 0);
    }

    /** Promises 18 and 22. */
    private static void fixedAndTries() {
        LiarHall hall = Due.talk("a&b", 7, "c:1;e:1;d:p", "s:c;v:t");
        long f = 6364136223846793005L;
        long g = 1442695040888963407L;
        long x = f + g + 1;
        x = x * f + g;
        x = x * f + g + 1;
        int first = (int) ((x >>> 33) % 7);
        x = x * f + g;
        x = x * f + g + first;
        is("fixed", hall.fixed(0, 5), 1);
        is("first draw", hall.draw(0), first);
        is("second draw", hall.draw(1), (int) ((x >>> 33) % 7));
        is("fixed of no talk", hall.fixed(1, 0), -1);
        is("fixed by y", hall.fixed(0, 1000001), -1);
        is("fixed by y", hall.fixed(0, -1), -1);
        is("tries", hall.tries(0, 1), 0);
        is("tries 0", hall.tries(0, 0), -1);
        is("tries 201", hall.tries(0, 201), -1);
        is("tries of no talk", hall.tries(-1, 5), -1);
        hall = Due.talk("a", 7, "e:1;d:1", "s:0;v:199-y");
        is("fixed believed", hall.fixed(0, 199), 1);
        is("tries 199", hall.tries(0, 199), 3);
        hall = Due.talk("a", 7, "e:1;d:1", "s:0;v:y=199?0;v:1");
        is("fixed not believed", hall.fixed(0, 3), 0);
        is("tries 199", hall.tries(0, 199), -1);
        is("tries 200", hall.tries(0, 200), 199);
        is("the latest stays", hall.latest(1), 1);
    }

    /** LAW's letters in c, d and e, seen by what is spent and by all rows. */
    private static void lawLetters() {
        String saying = "a&a&b|d";
        is("i", Due.talk(saying, 11, "d:i+1", "v:t").odds(0, 0, 1), 24);
        is("k", Due.talk(saying, 11, "d:k+1", "v:t").odds(0, 0, 1), 12);
        is("n", Due.talk(saying, 11, "d:n", "v:t").odds(0, 0, 1), 256);
        is("p", Due.talk("a", 11, "d:p", "v:t").odds(0, 0, 1), 11);
        is("D is the PRIME at most", Due.talk("a", 11, "d:12", "v:t").odds(0, 0, 1), 11);
        is("D is 1 at least", Due.talk("a", 11, "d:0-9", "v:t").odds(0, 0, 1), 1);
        is("D is 1 without d", Due.talk("a", 11, "c:1", "v:t").odds(0, 0, 1), 1);
        int curves = 2 * (9 + 4 + 1 + 4);
        is("c in ROUNDS with k > 0", Due.talk(saying, 11, "c:k", "v:t").spent(0, 0), curves + 3);
        is("e: i is n", Due.talk(saying, 11, "e:i=n?1", "v:t").spent(0, 0), curves + 3);
        is("e: i is 4", Due.talk(saying, 11, "e:i=4&n=4&p=11?1", "v:t").spent(0, 0), curves + 3);
        is("e: k is 0", Due.talk(saying, 11, "e:k", "v:t").spent(0, 0), curves);
    }

    private static int claimOf(String saying, int prime, String giant, int y) {
        LiarHall hall = Due.talk(saying, prime, "d:1", giant);
        hall.run(0, 1, y);
        return hall.latest(0);
    }

    /** GIANT's letters in s and v. */
    private static void giantLetters() {
        String saying = "a|b|c";
        is("s: t", claimOf(saying, 5, "s:t", 0), 2);
        is("s: c", claimOf(saying, 5, "s:c", 0), 2);
        is("s: w", claimOf(saying, 5, "s:w", 0), 2);
        is("s: n", claimOf(saying, 5, "s:n", 0), 3);
        is("s: p", claimOf(saying, 5, "s:p+1", 0), 1);
        is("s: p", claimOf(saying, 5, "s:p=5?1", 0), 1);
        is("s: y", claimOf(saying, 5, "s:y=12?y;s:1", 12), 2);
        is("s: l, i, j", claimOf(saying, 5, "s:l+i+j", 12), 0);
        is("s below 0", claimOf(saying, 5, "s:0-1", 0), 4);
        is("no s", claimOf(saying, 5, "v:1", 0), 0);
        LiarHall hall = Due.talk("a&a&b", 11, "d:3", "s:7;v:j=0?t;v:j=1?c*2;v:w+l*4");
        is("run", hall.run(0, 77, 0), 1);
        is("t", hall.value(0, 0), 0);
        is("c", hall.value(0, 1), 3);
        is("w, l is 0", hall.value(0, 2), 1);
        int a = hall.draw(0);
        int claim = new int[] {0, 3, 1}[a];
        is("t in ROUND 1", hall.value(1, 0), 0);
        is("c in ROUND 1", hall.value(1, 1), claim * 2);
        hall = Due.talk("a&b&b", 11, "d:3", "v:j=2?[w*n+l]*10+i;v:1");
        hall.run(0, 77, 0);
        a = hall.draw(0);
        is("w, n, l and i", hall.value(1, 2), ((a * 2 + a) * 10 + 1) % 11);
        hall = Due.talk("a&b", 3, "d:1", "v:0-j-1");
        hall.run(0, 77, 0);
        is("v below 0", hall.value(0, 0), 2);
        is("v below 0", hall.value(0, 1), 1);
    }

    private static void sumIs(String sum, int want) {
        is(sum, claimOf("a", 1000000007, "s:" + sum, 0), want);
    }

    /** SUMS and CONDITIONS. */
    private static void reckoning() {
        sumIs("2+3*4", 14);
        sumIs("10-3-2", 5);
        sumIs("[2+3]*4", 20);
        sumIs("100/7/2", 7);
        sumIs("100/[7/2]", 33);
        sumIs("[0-7]/2+9", 6);
        sumIs("[7/[0-2]]+9", 6);
        sumIs("7/0", 0);
        sumIs("7/[1-1]+1", 1);
        sumIs("9999*9999*9999-9999*9999*9998", 0);
        sumIs("9999*9999*9999", 2000000000 - 1000000007);
        sumIs("9999*9999*9999/9999", 200020);
        sumIs("9999*9999*21/1000/1000", 2000);
        sumIs("p+p-p", 999999993);
        sumIs("[0-p-p-p]/1000", 1000000007 - 2000000);
        sumIs("1=2|3=3?5", 5);
        sumIs("1=2&3=3|4<5?5", 5);
        sumIs("3=3|1=2&1=2?5", 5);
        sumIs("(3=3|1=2)&1=2?5", 0);
        sumIs("!1=2&1=2?5", 0);
        sumIs("!(1=2&1=2)?5", 5);
        sumIs("!!1=1?5", 5);
        sumIs("1<1?5", 0);
        sumIs("1>1?5", 0);
        sumIs("2>1?5", 5);
        sumIs("1+1=2*1?5", 5);
        sumIs("1=2?5;s:2=2?6;s:7", 6);
        sumIs("1=2?5;v:4;s:7", 7);
        sumIs("3;s:7", 3);
    }

    /** Promise 23. */
    private static void spents() {
        LiarHall hall = Due.talk("a&a&a|c", 5, "c:1;e:1;d:p", "v:t");
        // 1 + 2 * 16, 1 + 2, 1 + 8 and 3.
        is("spent", hall.spent(0, 0), 48);
        is("alone", hall.spent(0, 1), 24);
        is("no such", hall.spent(0, 2), -1);
        is("no such", hall.spent(0, -1), -1);
        is("no such talk", hall.spent(1, 0), -1);
        is("nothing asked", Due.talk("a&a&a|c", 5, "d:p", "v:t").spent(0, 0), 42);
        is("c asked in ROUND 1", Due.talk("a&a&a|c", 5, "c:i=1?2", "v:t").spent(0, 0), 43);
    }

    /** Promise 24. */
    private static void odds() {
        // The liar claims 2, says a CURVE 1 + j where j is true, and is believed if a root of 1 is drawn: never.
        LiarHall hall = Due.talk("a", 7, "c:1;e:1;d:p", "s:c+2;v:t+1");
        is("never", hall.odds(0, 0, 0), 0);
        is("rows", hall.odds(0, 0, 1), 7);
        // Values 1, 1 of the CURVE 1, where j is true: right at j = 1 alone.
        hall = Due.talk("a", 7, "c:1;e:1;d:p", "s:2;v:1");
        is("once", hall.odds(0, 0, 0), 1);
        is("rows", hall.odds(0, 0, 1), 7);
        is("no such", hall.odds(0, 0, 2), -1);
        is("no such", hall.odds(0, 0, -1), -1);
        is("no such talk", hall.odds(1, 0, 0), -1);
        is("y", hall.odds(0, -1, 0), -1);
        is("y", hall.odds(0, 1000001, 1), -1);
        is("latest stays", hall.latest(0), -1);
        hall = Due.talk("a|b|c", 23, "d:i=0?20;d:10", "v:0");
        is("2,000 rows", hall.odds(0, 0, 1), 2000);
        is("all believed", hall.odds(0, 0, 0), 2000);
        hall = Due.talk("a|b", 2003, "d:i=0?2001;d:1", "v:0");
        is("2,001 rows", hall.odds(0, 0, 1), -1);
        is("2,001 rows", hall.odds(0, 0, 0), -1);
        hall = Due.talk("a|b", 1000000007, "d:p", "v:0");
        is("far too many rows", hall.odds(0, 0, 1), -1);
        // By its y the giant is right or not.
        hall = Due.talk("a&b", 5, "c:1;e:1;d:p", "s:c+y;v:t");
        is("right", hall.odds(0, 5, 0), 25);
        is("not right", hall.odds(0, 6, 0), 0);
    }

    private static void chanceIs(String saying, int prime, String law, long... want) {
        LiarHall hall = Due.talk(saying, prime, law, "v:t");
        String all = " of " + saying + " / " + prime + " / " + law;
        is("best 0" + all, hall.best(0, 0), want[0]);
        is("best 1" + all, hall.best(0, 1), want[1]);
        is("bound 0" + all, hall.bound(0, 0), want[2]);
        is("bound 1" + all, hall.bound(0, 1), want[3]);
        is("best 2" + all, hall.best(0, 2), -1);
        is("bound -1" + all, hall.bound(0, -1), -1);
        is("best of none", hall.best(1, 0), -1);
        is("bound of none", hall.bound(-1, 0), -1);
    }

    /** Promises 25, 26 and 27. */
    private static void bests() {
        String all = "c:1;e:1;d:";
        chanceIs("a", 7, all + "p", 1, 7, 1, 7);
        chanceIs("a&a", 7, all + "p", 2, 7, 2, 7);
        chanceIs("a&a|b", 7, all + "p", 19, 49, 3, 7);
        chanceIs("a&a|b", 7, all + "4", 5, 8, 3, 4);
        chanceIs("a&a&a", 7, all + "3", 2, 3, 1, 1);
        chanceIs("a", 7, all + "1", 1, 1, 1, 1);
        chanceIs("b", 7, all + "2", 1, 2, 1, 2);
        chanceIs("b", 7, "c:i;e:1;d:7", 1, 1, 1, 1);
        chanceIs("a", 7, "c:1;d:7", 1, 1, 1, 1);
        chanceIs("a&a&a&a", 5, all + "2", 1, 2, 1, 1);
        is("bound alone", Due.talk("a", 7, all + "3", "v:t").bound(0, 1), 3);
        LiarHall hall = Due.talk("a&a&a|c", 7, "c:i<2?1;e:1;d:i=0?3;d:6", "v:t");
        is("roots 0", hall.roots(0, 0), 2);
        is("roots 1", hall.roots(0, 1), 0);
        is("roots 2", hall.roots(0, 2), 6);
        is("roots 3", hall.roots(0, 3), -1);
        is("roots -1", hall.roots(0, -1), -1);
        is("roots of none", hall.roots(1, 0), -1);
        is("roots by one die", Due.talk("a", 7, all + "1", "v:t").roots(0, 0), 1);
        is("roots without e", Due.talk("a", 7, "c:1;d:5", "v:t").roots(0, 0), 1);
    }

    /** Where BEST, BOUND and m are not told. */
    private static void notTold() {
        String all = "c:1;e:1;d:p";
        chanceIs("a", 1009, all, -1, -1, -1, -1);
        chanceIs("a", 1009, "c:1;e:1;d:1000", 1, 1000, 1, 1000);
        chanceIs("a", 1009, "c:1;e:1;d:1001", -1, -1, -1, -1);
        chanceIs("f", 317, all, -1, -1, -1, -1);
        chanceIs("f", 313, all, 1, 313, 1, 313);
        chanceIs("a&e", 1009, "c:1;e:1;d:1000", 1999, 1000000, 1, 500);
        rootsAre("a", 1009, all, -1);
        rootsAre("a", 997, all, 1);
        rootsAre("a", 1009, "c:1;e:1;d:1000", 1);
        rootsAre("a", 1009, "c:1;e:1;d:1001", -1);
        rootsAre("a", 1009, "d:1001", -1);
        // D of another ROUND is above 1,000.
        rootsAre("a|b", 500000003, "d:3+2000*i", -1, -1);
        rootsAre("a|b", 500000003, "c:1;e:1;d:3+2000*i", -1, -1);
        rootsAre("a|b", 500000003, "c:1;e:1;d:2003-2000*i", -1, -1);
        rootsAre("a|b", 500000003, "c:i;e:1;d:3+997*i", 3, 1);
        rootsAre("a|b", 500000003, "c:i;e:1;d:3+998*i", -1, -1);
        // The product of all D is above 10^15.
        rootsAre("f", 317, all, -1, -1, -1, -1, -1, -1);
        rootsAre("f", 317, "d:p", -1, -1, -1, -1, -1, -1);
        rootsAre("f", 313, all, 0, 0, 0, 0, 0, 1);
        rootsAre("f", 997, "c:1;e:1;d:i<5?p;d:2", -1, -1, -1, -1, -1, -1);
        rootsAre("a&e", 1009, "c:1;e:1;d:1000", 1, 0, 0, 0, 1);
        rootsAre("a&f", 1009, "c:1;e:1;d:i<5?1000;d:1", 1, 0, 0, 0, 0, 1);
        rootsAre("a&f", 1009, "c:1;e:1;d:i<5?1000;d:2", -1, -1, -1, -1, -1, -1);
    }

    private static void rootsAre(String saying, int prime, String law, int... want) {
        LiarHall hall = Due.talk(saying, prime, law, "v:t");
        for (int round = 0; round < want.length; round++) {
            is("roots " + round + " of " + saying + " / " + prime + " / " + law, hall.roots(0, round), want[round]);
        }
        is("roots behind all ROUNDS", hall.roots(0, want.length), -1);
        is("BEST as m", hall.best(0, 1) == -1 ? 1 : 0, want[0] == -1 ? 1 : 0);
    }

    /** Promise 28. */
    private static void smalls() {
        LiarHall hall = new LiarHall();
        Due.saying(hall, "a");
        Due.saying(hall, "a&a&a&a&a");
        Due.law(hall, "c:1;e:1;d:p");
        Due.law(hall, "c:1;d:p");
        Due.law(hall, "c:1;e:1;d:10");
        is("at most 1", hall.small(0, 0, 1), 3);
        is("at most 1 by 3", hall.small(0, 0, 3), 3);
        is("at most 1 by 4", hall.small(0, 0, 4), 5);
        is("at most 1 by 997", hall.small(0, 0, 997), 997);
        is("at most 1 by 998", hall.small(0, 0, 998), -1);
        is("above all STEEPS", hall.small(1, 0, 1), 7);
        is("5 by p at most 1 by 2", hall.small(1, 0, 2), 11);
        is("without e", hall.small(0, 1, 2), -1);
        is("without e", hall.small(0, 1, 1), 3);
        is("ten dice", hall.small(0, 2, 10), 11);
        is("ten dice", hall.small(0, 2, 11), -1);
        is("m 0", hall.small(0, 0, 0), -1);
        is("m 1,000,000", hall.small(0, 0, 1000000), -1);
        is("m 1,000,001", hall.small(0, 0, 1000001), -1);
        is("no such saying", hall.small(2, 0, 1), -1);
        is("no such law", hall.small(0, 3, 1), -1);
        Due.saying(hall, "f");
        is("told up to 313", hall.small(2, 0, 313), 313);
        is("not told above", hall.small(2, 0, 314), -1);
    }

    /** Promises 29 and 30. */
    private static void games() {
        LiarHall hall = new LiarHall();
        Due.saying(hall, "a&b|!a&!b");
        is("some a some b", hall.won(0, 0), 1);
        is("all a some b", hall.won(0, 1), 1);
        is("some a all b", hall.won(0, 2), 0);
        is("all a all b", hall.won(0, 3), 0);
        is("turns of no NAMES", hall.won(0, 61), 1);
        is("turns 64", hall.won(0, 64), -1);
        is("turns -1", hall.won(0, -1), -1);
        is("no such saying", hall.won(1, 0), -1);
        Due.saying(hall, "a|b");
        Due.point(hall, 3);
        // At b = 0: 3, at b = 1: 1.
        is("all b", hall.game(1, 2, 11), 3);
        is("some b", hall.game(1, 0, 11), 1);
        hall.lay(5);
        is("none left", hall.game(1, 2, 11), 4);
        hall.lay(6);
        is("more numbers", hall.game(1, 2, 11), 4);
        Due.point(hall);
        is("all a some b", hall.game(1, 1, 11), 1);
        is("all a all b", hall.game(1, 3, 11), 0);
        is("modulo 2", hall.game(1, 3, 2), -1);
        is("modulo 10", hall.game(1, 3, 10), -1);
        is("turns 64", hall.game(1, 64, 11), -1);
        is("no such saying", hall.game(2, 0, 11), -1);
    }

    /** Promise 31. */
    private static void steeps() {
        LiarHall hall = new LiarHall();
        Due.saying(hall, "a&a&a|d&f");
        is("behind a five", hall.steep(0, 0, 0, false), 96);
        is("behind a five", hall.steep(0, 0, 1, false), 96);
        is("from c on four", hall.steep(0, 0, 2, false), 48);
        is("from f on one", hall.steep(0, 0, 5, false), 6);
        is("none folded", hall.steep(0, 0, 6, false), 3);
        is("behind d two", hall.steep(0, 3, 0, false), 4);
        is("behind f none", hall.steep(0, 5, 0, false), 1);
        is("b stands nowhere", hall.steep(0, 1, 0, false), 0);
        is("low", hall.steep(0, 0, 5, true), 2);
        is("low, none folded", hall.steep(0, 0, 6, true), 3);
        is("low, b stands nowhere", hall.steep(0, 1, 0, true), 0);
        is("low, behind f none", hall.steep(0, 5, 0, true), 1);
        is("k 7", hall.steep(0, 0, 7, false), -1);
        is("k -1", hall.steep(0, 0, -1, true), -1);
        is("name 6", hall.steep(0, 6, 0, false), -1);
        is("name -1", hall.steep(0, -1, 0, false), -1);
        is("no such saying", hall.steep(1, 0, 0, false), -1);
        Due.saying(hall, "b");
        is("beyond NAMES", hall.steep(1, 2, 0, false), -1);
        is("k beyond NAMES", hall.steep(1, 0, 3, false), -1);
    }

    /** Promises 32, 33 and 34. */
    private static void nets() {
        LiarHall hall = new LiarHall();
        is("one point", hall.net(1, 0), -1);
        is("seven points", hall.net(7, 0), -1);
        is("edges beyond two points", hall.net(2, 2), -1);
        is("edges beyond six points", hall.net(6, 1 << 15), -1);
        is("edges below 0", hall.net(6, -1), -1);
        is("nets", hall.count(4), 0);
        is("two points", hall.net(2, 1), 0);
        is("six points", hall.net(6, (1 << 15) - 1), 1);
        // 0-1, 1-2, 2-3 and 0-2, 0-3, 1-3: two ways of four points in a row.
        is("a row", hall.net(4, 1 | 4 | 32), 2);
        is("a row", hall.net(4, 2 | 8 | 16), 3);
        // A star has as many edges.
        is("a star", hall.net(4, 1 | 2 | 8), 4);
        is("alike", hall.alike(2, 3), 1);
        is("alike", hall.alike(2, 4), 0);
        is("as itself", hall.alike(4, 4), 1);
        is("of unlike points", hall.alike(0, 1), 0);
        is("no such", hall.alike(0, 5), -1);
        is("no such", hall.alike(-1, 0), -1);
        // The ends 1, 2 of 2-0-3-1: the row 0 1 2 3 goes to 1 3 0 2.
        int[] row = {1, 3, 0, 2};
        for (int point = 0; point < 4; point++) {
            is("shuffle " + point, hall.shuffle(2, 3, point), row[point]);
            is("to itself " + point, hall.shuffle(4, 4, point), point);
        }
        is("shuffle of none", hall.shuffle(2, 4, 0), -1);
        is("shuffle of unlike points", hall.shuffle(0, 1, 0), -1);
        is("point 4", hall.shuffle(2, 3, 4), -1);
        is("point -1", hall.shuffle(2, 3, -1), -1);
        is("no such", hall.shuffle(2, 5, 0), -1);
        for (int number = 5; number < 12; number++) {
            is("net", hall.net(3, 7), number);
        }
        is("a 13th net", hall.net(3, 7), -1);
    }

    /** Promise 35. */
    private static void unlikes() {
        LiarHall hall = new LiarHall();
        hall.net(3, 1);
        hall.net(3, 3);
        hall.net(3, 2);
        hall.net(4, 2);
        is("not alike", hall.unlike(0, 1, 9, 30), 30);
        int right = 0;
        long x = 9;
        for (int round = 0; round < 30; round++) {
            x = x * 6364136223846793005L + 1442695040888963407L;
            right += (x >>> 33) % 2 == 0 ? 1 : 0;
        }
        is("alike", hall.unlike(0, 2, 9, 30), right);
        is("alike, the higher net told first", hall.unlike(2, 0, 9, 30), 30 - right);
        DUE.is("the run tells something", right != 15 && right != 0 && right != 30, true);
        is("no rounds", hall.unlike(0, 1, 9, 0), -1);
        is("31 rounds", hall.unlike(0, 1, 9, 31), -1);
        is("one and the same", hall.unlike(1, 1, 9, 3), -1);
        is("of unlike points", hall.unlike(2, 3, 9, 3), -1);
        is("no such", hall.unlike(0, 4, 9, 3), -1);
        is("no such", hall.unlike(-1, 0, 9, 3), -1);
        // By seed 0 x is 1442695040888963407 first, which is odd shifted right by 33: the one told second.
        is("alike, the lower net told second", hall.unlike(2, 0, 0, 1), 1);
        is("alike, the lower net told first", hall.unlike(0, 2, 0, 1), 0);
        is("not alike, told second", hall.unlike(1, 0, 0, 1), 1);
        hall.net(3, 4);
        is("alike, 4 and 2", hall.unlike(4, 2, 0, 1), 1);
        is("alike, 2 and 4", hall.unlike(2, 4, 0, 1), 0);
    }

    /** Promise 36. */
    private static void rooms() {
        LiarHall hall = new LiarHall();
        long all = (1L << 36) - 1;
        is("all agree", hall.rooms(all, 0), 9);
        is("all agree", hall.rooms(all, 1), 9);
        is("none agree", hall.rooms(0, 0), 0);
        is("none agree", hall.rooms(0, 1), 0);
        // x = 2, y = 1, a = 1, b = 0.
        is("one agreement", hall.rooms(1L << ((2 * 3 + 1) * 2 + 1) * 2, 0), 1);
        long agreeing = 0;
        long firstAlone = 0;
        for (int place = 0; place < 36; place++) {
            int x = place / 12;
            int y = place / 4 % 3;
            int a = place / 2 % 2;
            int b = place % 2;
            agreeing |= (a ^ b) == (x == 2 && y == 2 ? 1 : 0) ? 1L << place : 0;
            firstAlone |= b == x % 2 ? 1L << place : 0;
        }
        is("TALES", hall.rooms(agreeing, 0), 8);
        is("WORD", hall.rooms(agreeing, 1), 9);
        is("what the second can't know", hall.rooms(firstAlone, 0), 6);
        is("what a word tells", hall.rooms(firstAlone, 1), 9);
        is("no such", hall.rooms(all, 2), -1);
        is("no such", hall.rooms(all, -1), -1);
        is("out of bounds", hall.rooms(all + 1, 1), -1);
        is("out of bounds", hall.rooms(-1, 1), -1);
    }

    /** Promises 37, 38 and 39. */
    private static void books() {
        LiarHall hall = new LiarHall();
        int[] linear = {0, 10, 12, 6};
        for (int bits = 0; bits < 16; bits++) {
            boolean is = bits == linear[0] || bits == linear[1] || bits == linear[2] || bits == linear[3];
            is("linear " + bits, hall.book(2, bits, 0), is ? 1 : 0);
        }
        // 8: at u, v of 1 .. 3 unlike; caught by those six, as cells 1 and 2 are 0 and 3 is 1.
        is("caught 8", hall.book(2, 8, 1), 6);
        is("near 8", hall.book(2, 8, 2), 1);
        is("nearest 8", hall.book(2, 8, 3), 0);
        is("near 15", hall.book(2, 15, 2), 2);
        is("nearest 15", hall.book(2, 15, 3), 6);
        is("k 0", hall.book(0, 0, 0), -1);
        is("k 5", hall.book(5, 0, 0), -1);
        is("bits", hall.book(2, 16, 0), -1);
        is("bits", hall.book(4, 65536, 0), -1);
        is("bits", hall.book(4, 65535, 2), 8);
        is("bits below 0", hall.book(4, -1, 0), -1);
        is("what", hall.book(2, 8, 4), -1);
        is("what", hall.book(2, 8, -1), -1);
        // Cells of 8 unlike: at place 1 by v = 2, 3 (half), of 10 by all.
        is("mended by half", hall.mended(2, 8, 1), 0);
        is("mended", hall.mended(2, 10, 1), 1);
        is("mended", hall.mended(2, 10, 2), 0);
        is("mended in spite of a fault", hall.mended(3, 0xaa ^ 1, 1), 1);
        is("place 4", hall.mended(2, 10, 4), -1);
        is("place -1", hall.mended(2, 10, -1), -1);
        is("k 0", hall.mended(0, 0, 0), -1);
        is("bits", hall.mended(1, 4, 0), -1);
        is("least of 1", hall.least(1, 0), 4);
        is("least of 1", hall.least(1, 1), 1);
        is("least of 2", hall.least(2, 0), 6);
        is("least of 2", hall.least(2, 1), 2);
        is("least of 0", hall.least(0, 0), -1);
        is("least of 4", hall.least(4, 1), -1);
        is("what", hall.least(2, 2), -1);
        is("what", hall.least(2, -1), -1);
    }

    /** Promise 40. */
    private static void counts() {
        LiarHall hall = new LiarHall();
        Due.saying(hall, "a");
        Due.saying(hall, "a");
        Due.law(hall, "c:1");
        Due.giant(hall, "v:1");
        Due.giant(hall, "v:1");
        Due.giant(hall, "v:1");
        for (int i = 0; i < 4; i++) {
            hall.talk(0, 3, 0, 0);
        }
        for (int i = 0; i < 5; i++) {
            hall.net(2, 1);
            hall.lay(i);
        }
        hall.lay(5);
        Due.tell(hall, "abcdefg");
        long[] want = {2, 1, 3, 4, 5, 6, 7, -1};
        for (int what = 0; what < want.length; what++) {
            is("count " + what, hall.count(what), want[what]);
        }
        is("count -1", hall.count(-1), -1);
    }
}
