import java.math.BigInteger;
import java.util.List;
import java.util.Random;
import java.util.stream.Collectors;
import java.util.stream.IntStream;

/** Random sayings and talks against Model. */
public final class ModelTest {
    private static final Random RANDOM = new Random(11);
    private static final int[] PRIMES = {3, 5, 7, 11, 13, 31, 97, 499, 997, 1009, 65537, 1000000007};
    private static final String[] LAWS = {"c:1;e:1;d:p", "c:1;e:1;d:2", "c:1;e:1;d:i+1", "e:1;d:3", "c:1;d:k+1",
        "c:i>0?1;e:1;d:5", "c:1;e:i=n?1;d:p/2", "c:1;e:k=0?1;d:1000", "e:1;c:1-i;d:n*3", "c:1;e:1;d:i=0?9;d:1",
        "d:3+2000*i", "c:1;e:1;d:999+i", "c:i;e:1;d:1003-i*3"};
    private static final String[] GIANTS = {"s:c;v:t", "s:c+1;v:t", "s:4;v:c/2", "s:c+1;v:t+[c-w]/2", "s:y;v:t+y*j",
        "s:c+1;v:j=0?t+c-w;v:t", "s:0-1;v:l*j+i-y", "s:t+w;v:t*w-n/2", "s:c+1;v:t+[c-w]*[p+1]/2", "v:9999*9999*j"};

    public static void main(String[] args) {
        Due due = new Due();
        for (int i = 0; i < 1500; i++) {
            sayings(due, Texts.saying(RANDOM, 1 + RANDOM.nextInt(6), 4));
        }
        for (int i = 0; i < 1500; i++) {
            talks(due, Texts.saying(RANDOM, 1 + RANDOM.nextInt(4), 3));
        }
        due.close("ModelTest");
    }

    private static int anyPrime() {
        return PRIMES[RANDOM.nextInt(PRIMES.length)];
    }

    private static void sayings(Due due, String text) {
        LiarHall hall = new LiarHall();
        String bare = Model.bare(text);
        if (text.length() > 200) {
            return;
        }
        int names = Model.namesOf(text);
        due.is("saying " + text, Due.saying(hall, text), 0);
        due.is("NAMES of " + text, hall.said(0, 0), names);
        due.is("WORK of " + text, hall.said(0, 1), Model.workOf(text));
        due.is("COUNT of " + text, hall.said(0, 2), Model.sumOver(bare, new long[6], 0, 1000000007));
        for (int name = 0; name < 6; name++) {
            due.is("STEEP of " + text, hall.said(0, 3 + name), Model.steepOf(text, name));
        }
        int corner = RANDOM.nextInt(64);
        long[] bits = new long[6];
        for (int name = 0; name < 6; name++) {
            bits[name] = corner >> name & 1;
        }
        due.is("truth " + corner + " of " + text, hall.truth(0, corner), Model.sumOver(bare, bits, 6, 97));
        points(due, hall, text, bare, names);
    }

    private static void points(Due due, LiarHall hall, String text, String bare, int names) {
        int prime = anyPrime();
        int laid = RANDOM.nextInt(7);
        long[] point = new long[6];
        for (int name = 0; name < laid; name++) {
            point[name] = RANDOM.nextInt(RANDOM.nextBoolean() ? 10 : Integer.MAX_VALUE);
            hall.lay((int) point[name]);
        }
        long worth = laid < names ? -1 : Model.sumOver(bare, point, 6, prime);
        due.is("worth " + text, hall.worth(0, prime), worth);
        due.is("sum " + text, hall.sum(0, prime), Model.sumOver(bare, point, laid, prime));
        int turns = RANDOM.nextInt(64);
        due.is("game " + text, hall.game(0, turns, prime), game(bare, turns, prime, point, Math.min(laid, names)));
        due.is("won " + text, hall.won(0, turns), game(bare, turns, 97, new long[6], 0));
        int x = RANDOM.nextInt(RANDOM.nextBoolean() ? 10 : Integer.MAX_VALUE);
        long curve = -1;
        if (laid > 0 && laid < prime) {
            List<Long> values = IntStream.range(0, laid).mapToObj(i -> point[i] % prime).collect(Collectors.toList());
            curve = Model.curveAt(values, prime, x);
        }
        due.is("curve of " + laid + " modulo " + prime + " at " + x, hall.curve(prime, x), curve);
    }

    static long game(String bare, int turns, long prime, long[] point, int played) {
        if (played == Model.namesOf(bare)) {
            return Model.sumOver(bare, point, 6, prime);
        }
        long[] next = point.clone();
        next[played] = 0;
        BigInteger u = BigInteger.valueOf(game(bare, turns, prime, next, played + 1));
        next[played] = 1;
        BigInteger v = BigInteger.valueOf(game(bare, turns, prime, next, played + 1));
        BigInteger both = u.multiply(v);
        BigInteger value = (turns >> played & 1) == 1 ? both : u.add(v).subtract(both);
        return value.mod(BigInteger.valueOf(prime)).longValue();
    }

    private static void talks(Due due, String saying) {
        int prime = anyPrime();
        int most = IntStream.range(0, 6).map(name -> Model.steepOf(saying, name)).max().getAsInt();
        if (prime <= most || saying.length() > 60) {
            return;
        }
        String law = RANDOM.nextInt(3) > 0 ? LAWS[RANDOM.nextInt(LAWS.length)] : Texts.whole(RANDOM, 1, 3);
        String giant = RANDOM.nextInt(3) > 0 ? GIANTS[RANDOM.nextInt(GIANTS.length)] : Texts.whole(RANDOM, 2, 3);
        if (law.length() > 200 || giant.length() > 200) {
            return;
        }
        LiarHall hall = Due.talk(saying, prime, law, giant);
        Model model = new Model(saying, prime, law, giant);
        String all = " of " + saying + " / " + prime + " / " + law + " / " + giant;
        int y = RANDOM.nextInt(5) > 0 ? RANDOM.nextInt(20) : RANDOM.nextInt(1000001);
        int tries = -1;
        for (int i = 0; i < 4 && tries < 0; i++) {
            tries = model.run(null, i) ? i : -1;
        }
        long seed = RANDOM.nextLong();
        due.is("run" + all, hall.run(0, seed, y), model.run(seed, y) ? 1 : 0);
        latest(due, "run" + all, hall, model);
        due.is("fixed" + all, hall.fixed(0, y), model.run(null, y) ? 1 : 0);
        latest(due, "fixed" + all, hall, model);
        due.is("tries" + all, hall.tries(0, 4), tries);
        latest(due, "behind tries" + all, hall, model);
        due.is("all rows" + all, hall.odds(0, y, 1), model.rows());
        if (model.rows() <= 150) {
            due.is("odds" + all, hall.odds(0, y, 0), model.rows() < 0 ? -1 : model.odds(y));
        }
        chances(due, all, hall, model);
    }

    private static void latest(Due due, String what, LiarHall hall, Model model) {
        due.is("first claim of " + what, hall.latest(0), model.firstClaim);
        due.is("gave up of " + what, hall.latest(1), model.gaveUp);
        due.is("claim of " + what, hall.latest(2), model.claim);
        due.is("draws of " + what, hall.latest(3), model.draws.size());
        for (int round = 0; round < 7; round++) {
            due.is("draw " + round + what, hall.draw(round), round < model.draws.size() ? model.draws.get(round) : -1);
            int values = round < model.said.size() ? model.said.get(round).size() : 0;
            for (int j = 0; j < values; j++) {
                due.is("value " + round + " " + j + what, hall.value(round, j), model.said.get(round).get(j));
            }
            due.noValue("value beyond " + round + what, hall, round, values);
        }
    }

    private static void chances(Due due, String all, LiarHall hall, Model model) {
        for (int what = 0; what < 2; what++) {
            BigInteger[] best = model.chance(true);
            BigInteger[] bound = model.chance(false);
            due.is("best " + what + all, hall.best(0, what), best == null ? -1 : best[what].longValue());
            due.is("bound " + what + all, hall.bound(0, what), bound == null ? -1 : bound[what].longValue());
        }
        due.is("spent" + all, hall.spent(0, 0), model.spent());
        due.is("alone" + all, hall.spent(0, 1), (long) Model.workOf(model.saying) << model.names);
        for (int round = 0; round < model.names; round++) {
            roots(due, all, hall, model, round);
        }
        smallest(due, all, hall, model);
    }

    /** Where BEST is told m is found by trying all CURVES, if they are few. */
    private static void roots(Due due, String all, LiarHall hall, Model model, int round) {
        int steep = Model.steepOf(model.saying, round);
        boolean asks = model.lawWorth('c', round) != 0;
        int dice = (int) model.dice(round);
        if (model.chance(true) == null) {
            due.is("roots not told " + round + all, hall.roots(0, round), -1);
        } else if (!asks) {
            due.is("roots not asked " + round + all, hall.roots(0, round), dice);
        } else if (model.prime <= 7 && steep <= 3) {
            due.is("roots " + round + all, hall.roots(0, round), Model.mostRoots(model.prime, steep, dice));
        }
    }

    private static void smallest(Due due, String all, LiarHall hall, Model model) {
        int m = 1 + RANDOM.nextInt(RANDOM.nextBoolean() ? 20 : 1000000);
        int least = -1;
        for (int prime = 3; prime <= 1000 && least < 0; prime++) {
            int tried = prime;
            boolean above = IntStream.range(0, 6).allMatch(name -> Model.steepOf(model.saying, name) < tried);
            if (above && BigInteger.valueOf(prime).isProbablePrime(30)) {
                BigInteger[] best = new Model(model.saying, prime, model.law, model.giant).chance(true);
                boolean low = best != null && best[0].multiply(BigInteger.valueOf(m)).compareTo(best[1]) <= 0;
                least = low ? prime : -1;
            }
        }
        due.is("small by " + m + all, hall.small(0, 0, m), least);
    }
}
