import java.math.BigInteger;
import java.util.ArrayList;
import java.util.HashMap;
import java.util.List;
import java.util.Map;
import java.util.NoSuchElementException;
import java.util.stream.Collectors;
import java.util.stream.IntStream;

/** The document's hall the long way, with all that is told to it; ROOMS and BOOKS are TablesTest's. */
final class HallModel {
    private static final Map<String, Integer> FAULTS = new HashMap<>();

    final StringBuilder tape = new StringBuilder();
    final List<String> sayings = new ArrayList<>();
    final List<String> laws = new ArrayList<>();
    final List<String> giants = new ArrayList<>();
    final List<int[]> talks = new ArrayList<>();
    final List<int[]> nets = new ArrayList<>();
    final List<Integer> point = new ArrayList<>();
    private Model latest;

    int feed(int a, int b, int c, int d, int e) {
        StringBuilder more = new StringBuilder();
        for (int number : new int[] {a, b, c, d, e}) {
            for (byte one : BigInteger.valueOf(number & 0xffffffffL).toByteArray()) {
                more.append(one == 0 ? "" : String.valueOf((char) (one & 255)));
            }
        }
        if (tape.length() + more.length() > 200) {
            return -1;
        }
        return tape.append(more).length();
    }

    boolean end(int n) {
        boolean stands = n >= 0 && n <= tape.length();
        tape.setLength(stands ? n : tape.length());
        return stands;
    }

    int fault(int sort) {
        return sort < 0 || sort > 2 ? -2 : FAULTS.computeIfAbsent(sort + tape.toString(),
            key -> Grammar.faultOf(key.substring(1), sort));
    }

    private int keep(int sort, List<String> texts, int most) {
        if (fault(sort) != -1 || texts.size() == most) {
            return -1;
        }
        texts.add(tape.toString());
        tape.setLength(0);
        return texts.size() - 1;
    }

    int saying() {
        return keep(0, sayings, 20);
    }

    int law() {
        return keep(1, laws, 12);
    }

    int giant() {
        return keep(2, giants, 12);
    }

    private static <T> boolean has(List<T> all, int number) {
        return number >= 0 && number < all.size();
    }

    private static boolean isPrime(int number) {
        return number > 2 && number <= 1_000_000_007 && BigInteger.valueOf(number).isProbablePrime(30);
    }

    private long[] point(int prime) {
        long[] rests = new long[6];
        for (int name = 0; name < point.size(); name++) {
            rests[name] = point.get(name) % prime;
        }
        return rests;
    }

    int said(int saying, int what) {
        if (!has(sayings, saying) || what < 0 || what > 8) {
            return -1;
        }
        String text = sayings.get(saying);
        if (what > 2) {
            return Model.steepOf(text, what - 3);
        }
        return what == 0 ? Model.namesOf(text) : what == 1 ? Model.workOf(text)
            : (int) Model.sumOver(Model.bare(text), new long[6], 0, 67);
    }

    int truth(int saying, int corner) {
        if (!has(sayings, saying) || corner < 0 || corner > 63) {
            return -1;
        }
        long[] bits = IntStream.range(0, 6).mapToLong(name -> corner >> name & 1).toArray();
        return (int) Model.sumOver(Model.bare(sayings.get(saying)), bits, 6, 3);
    }

    int lay(int number) {
        if (number < 0 || point.size() == 6) {
            return -1;
        }
        point.add(number);
        return point.size() - 1;
    }

    int clear() {
        int many = point.size();
        point.clear();
        return many;
    }

    int worth(int saying, int prime) {
        boolean told = has(sayings, saying) && point.size() >= Model.namesOf(sayings.get(saying));
        return told ? sum(saying, prime) : -1;
    }

    int sum(int saying, int prime) {
        if (!has(sayings, saying) || !isPrime(prime)) {
            return -1;
        }
        return (int) Model.sumOver(Model.bare(sayings.get(saying)), point(prime), point.size(), prime);
    }

    boolean prime(int number) {
        return number == 2 || isPrime(number);
    }

    int curve(int prime, int x) {
        if (!isPrime(prime) || point.isEmpty() || point.size() >= prime || x < 0) {
            return -1;
        }
        List<Long> values = point.stream().map(number -> (long) number % prime).collect(Collectors.toList());
        return (int) Model.curveAt(values, prime, x);
    }

    int talk(int saying, int prime, int law, int giant) {
        if (!has(sayings, saying) || !has(laws, law) || !has(giants, giant) || !isPrime(prime) || talks.size() == 12) {
            return -1;
        }
        if (IntStream.range(0, 6).anyMatch(name -> Model.steepOf(sayings.get(saying), name) >= prime)) {
            return -1;
        }
        talks.add(new int[] {saying, prime, law, giant});
        return talks.size() - 1;
    }

    /** Null if there is none. */
    Model talkAt(int talk) {
        if (!has(talks, talk)) {
            return null;
        }
        int[] parts = talks.get(talk);
        return new Model(sayings.get(parts[0]), parts[1], laws.get(parts[2]), giants.get(parts[3]));
    }

    private int go(int talk, Long seed, int y) {
        if (!has(talks, talk) || y < 0 || y > 1_000_000) {
            return -1;
        }
        latest = talkAt(talk);
        return latest.run(seed, y) ? 1 : 0;
    }

    int run(int talk, long seed, int y) {
        return go(talk, seed, y);
    }

    int fixed(int talk, int y) {
        return go(talk, null, y);
    }

    int latest(int what) {
        if (latest == null || what < 0 || what > 3) {
            return -1;
        }
        long[] all = {latest.firstClaim, latest.gaveUp, latest.claim, latest.draws.size()};
        return (int) all[what];
    }

    int value(int round, int j) {
        if (latest == null || !has(latest.said, round) || !has(latest.said.get(round), j)) {
            throw new NoSuchElementException();
        }
        return latest.said.get(round).get(j).intValue();
    }

    int draw(int round) {
        return latest == null || !has(latest.draws, round) ? -1 : latest.draws.get(round).intValue();
    }

    int tries(int talk, int many) {
        if (!has(talks, talk) || many < 1 || many > 200) {
            return -1;
        }
        return IntStream.range(0, many).filter(y -> talkAt(talk).run(null, y)).findFirst().orElse(-1);
    }

    int spent(int talk, int what) {
        if (!has(talks, talk) || what < 0 || what > 1) {
            return -1;
        }
        Model model = talkAt(talk);
        return what == 0 ? model.spent() : Model.workOf(model.saying) << model.names;
    }

    int odds(int talk, int y, int what) {
        if (!has(talks, talk) || y < 0 || y > 1_000_000 || what < 0 || what > 1) {
            return -1;
        }
        int rows = talkAt(talk).rows();
        return rows < 0 || what == 1 ? rows : talkAt(talk).odds(y);
    }

    private long chance(int talk, int what, boolean best) {
        BigInteger[] both = has(talks, talk) && what >= 0 && what < 2 ? talkAt(talk).chance(best) : null;
        return both == null ? -1 : both[what].longValue();
    }

    long best(int talk, int what) {
        return chance(talk, what, true);
    }

    long bound(int talk, int what) {
        return chance(talk, what, false);
    }

    int roots(int talk, int round) {
        Model model = talkAt(talk);
        if (model == null || round < 0 || round >= model.names || model.chance(true) == null) {
            return -1;
        }
        int dice = (int) model.dice(round);
        int steep = Model.steepOf(model.saying, round);
        // With roots at both 0 and 1 the values there would sum up to 0.
        return model.lawWorth('c', round) == 0 ? dice : Math.min(steep, dice == 1 ? 1 : dice - 1);
    }

    int small(int saying, int law, int m) {
        if (!has(sayings, saying) || !has(laws, law) || m < 1 || m > 1_000_000) {
            return -1;
        }
        String text = sayings.get(saying);
        for (int prime = 3; prime <= 1000; prime++) {
            int tried = prime;
            boolean above = IntStream.range(0, 6).allMatch(name -> Model.steepOf(text, name) < tried);
            BigInteger[] best = above && isPrime(prime) ? new Model(text, prime, laws.get(law), "").chance(true) : null;
            if (best != null && best[0].multiply(BigInteger.valueOf(m)).compareTo(best[1]) <= 0) {
                return prime;
            }
        }
        return -1;
    }

    int won(int saying, int turns) {
        boolean told = has(sayings, saying) && turns >= 0 && turns < 64;
        return told ? (int) ModelTest.game(Model.bare(sayings.get(saying)), turns, 5, new long[6], 0) : -1;
    }

    int game(int saying, int turns, int prime) {
        if (!has(sayings, saying) || turns < 0 || turns > 63 || !isPrime(prime)) {
            return -1;
        }
        String bare = Model.bare(sayings.get(saying));
        int played = Math.min(point.size(), Model.namesOf(bare));
        return (int) ModelTest.game(bare, turns, prime, point(prime), played);
    }

    int steep(int saying, int name, int k, boolean low) {
        int names = has(sayings, saying) ? Model.namesOf(sayings.get(saying)) : 0;
        if (name < 0 || name >= names || k < 0 || k > names) {
            return -1;
        }
        int steep = Model.steepOf(sayings.get(saying), name);
        int folded = steep;
        for (int behind = names - 1; behind > name && behind >= k; behind--) {
            folded = low && steep > 0 ? 2 : folded * 2;
        }
        return folded;
    }

    int net(int points, int edges) {
        if (points < 2 || points > 6 || edges < 0 || edges >> points * (points - 1) / 2 > 0 || nets.size() == 12) {
            return -1;
        }
        nets.add(new int[] {points, edges});
        return nets.size() - 1;
    }

    /** Null if they are not ALIKE. */
    private List<Integer> row(int one, int other) {
        int points = nets.get(one)[0];
        List<List<Integer>> rows = new ArrayList<>();
        TablesTest.rows(points, new ArrayList<>(), rows);
        for (List<Integer> row : rows) {
            boolean all = TablesTest.moved(nets.get(one)[1], points, row) == nets.get(other)[1];
            if (points == nets.get(other)[0] && all) {
                return row;
            }
        }
        return null;
    }

    int alike(int one, int other) {
        return !has(nets, one) || !has(nets, other) ? -1 : row(one, other) == null ? 0 : 1;
    }

    int shuffle(int one, int other, int place) {
        List<Integer> row = has(nets, one) && has(nets, other) ? row(one, other) : null;
        return row == null || !has(row, place) ? -1 : row.get(place);
    }

    int unlike(int one, int other, long seed, int rounds) {
        if (!has(nets, one) || !has(nets, other) || one == other || nets.get(one)[0] != nets.get(other)[0]) {
            return -1;
        }
        if (rounds < 1 || rounds > 30) {
            return -1;
        }
        long x = seed;
        int right = 0;
        for (int round = 0; round < rounds; round++) {
            x = x * Model.FACTOR + Model.ADDEND;
            int was = (x >>> 33) % 2 == 0 ? one : other;
            right += row(one, other) == null || was == Math.min(one, other) ? 1 : 0;
        }
        return right;
    }

    int count(int what) {
        int[] all = {sayings.size(), laws.size(), giants.size(), talks.size(), nets.size(), point.size(), tape.length()};
        return what < 0 || what > 6 ? -1 : all[what];
    }
}
