import java.util.ArrayList;
import java.util.List;
import java.util.Random;

/** NETS, ROOMS and BOOKS against a search of all shuffles, all tales and all books. */
public final class TablesTest {
    private static final Random RANDOM = new Random(17);

    public static void main(String[] args) {
        Due due = new Due();
        for (int i = 0; i < 600; i++) {
            nets(due, 2 + RANDOM.nextInt(5));
        }
        for (int i = 0; i < 250; i++) {
            long table = RANDOM.nextLong() & RANDOM.nextLong() & (1L << 36) - 1;
            rooms(due, i % 2 == 0 ? table : RANDOM.nextLong() & (1L << 36) - 1);
        }
        for (int k = 1; k <= 4; k++) {
            books(due, k);
        }
        due.close("TablesTest");
    }

    private static boolean joins(int edges, int u, int v) {
        return (edges >> Math.max(u, v) * (Math.max(u, v) - 1) / 2 + Math.min(u, v) & 1) == 1;
    }

    static int moved(int edges, int points, List<Integer> row) {
        int all = 0;
        for (int v = 1; v < points; v++) {
            for (int u = 0; u < v; u++) {
                int high = Math.max(row.get(u), row.get(v));
                int low = Math.min(row.get(u), row.get(v));
                all |= joins(edges, u, v) ? 1 << high * (high - 1) / 2 + low : 0;
            }
        }
        return all;
    }

    /** All rows from the least up. */
    static void rows(int points, List<Integer> row, List<List<Integer>> all) {
        if (row.size() == points) {
            all.add(new ArrayList<>(row));
        }
        for (int place = 0; place < points; place++) {
            if (!row.contains(place)) {
                row.add(place);
                rows(points, row, all);
                row.remove(row.size() - 1);
            }
        }
    }

    private static void nets(Due due, int points) {
        List<List<Integer>> all = new ArrayList<>();
        rows(points, new ArrayList<>(), all);
        int one = RANDOM.nextInt(1 << points * (points - 1) / 2);
        int other = RANDOM.nextInt(4) > 0 ? moved(one, points, all.get(RANDOM.nextInt(all.size())))
                : RANDOM.nextInt(1 << points * (points - 1) / 2);
        List<Integer> least = null;
        for (List<Integer> row : all) {
            if (least == null && moved(one, points, row) == other) {
                least = row;
            }
        }
        LiarHall hall = new LiarHall();
        due.is("net", hall.net(points, one), 0);
        due.is("net", hall.net(points, other), 1);
        String both = " of " + points + ": " + one + ", " + other;
        due.is("alike" + both, hall.alike(0, 1), least == null ? 0 : 1);
        for (int point = 0; point < points; point++) {
            due.is("shuffle " + point + both, hall.shuffle(0, 1, point), least == null ? -1 : least.get(point));
        }
        long seed = RANDOM.nextLong();
        int rounds = 1 + RANDOM.nextInt(30);
        for (int first = 0; first < 2; first++) {
            int right = 0;
            long x = seed;
            for (int round = 0; round < rounds; round++) {
                x = x * Model.FACTOR + Model.ADDEND;
                int was = (int) ((x >>> 33) % 2);
                int shuffled = was == 0 ? first : 1 - first;
                int told = least == null ? shuffled : Math.min(first, 1 - first);
                right += told == shuffled ? 1 : 0;
            }
            due.is("unlike from " + first + both, hall.unlike(first, 1 - first, seed, rounds), right);
        }
    }

    private static int agree(long table, int x, int y, int a, int b) {
        return (int) (table / (1L << ((x * 3 + y) * 2 + a) * 2 + b) % 2);
    }

    private static void rooms(Due due, long table) {
        int tales = 0;
        int word = 0;
        for (int all = 0; all < 1 << 12; all++) {
            // Bits 0 .. 2 the first's answers, 3 .. 5 its words, 6 .. 8 and 9 .. 11 the second's behind 0 and 1.
            int agreeing = 0;
            for (int pair = 0; pair < 9; pair++) {
                int x = pair / 3;
                int y = pair % 3;
                int heard = all >> 3 + x & 1;
                agreeing += agree(table, x, y, all >> x & 1, all >> 6 + 3 * heard + y & 1);
            }
            word = Math.max(word, agreeing);
            tales = (all >> 3 & 7) == 0 ? Math.max(tales, agreeing) : tales;
        }
        LiarHall hall = new LiarHall();
        due.is("TALES of " + table, hall.rooms(table, 0), tales);
        due.is("WORD of " + table, hall.rooms(table, 1), word);
    }

    private static int caught(int k, int bits) {
        int many = 0;
        for (int u = 0; u < 1 << k; u++) {
            for (int v = 0; v < 1 << k; v++) {
                int sum = ((bits >> u & 1) + (bits >> v & 1)) % 2;
                many += (bits >> (u ^ v) & 1) == sum ? 0 : 1;
            }
        }
        return many;
    }

    private static void books(Due due, int k) {
        int books = 1 << (1 << k);
        List<Integer> linear = new ArrayList<>();
        int fewest = Integer.MAX_VALUE;
        int least = -1;
        for (int bits = 0; bits < books; bits++) {
            int many = caught(k, bits);
            if (many == 0) {
                linear.add(bits);
            } else if (many < fewest) {
                fewest = many;
                least = bits;
            }
        }
        LiarHall hall = new LiarHall();
        due.is("least " + k, hall.least(k, 0), k < 4 ? fewest : -1);
        due.is("least book " + k, hall.least(k, 1), k < 4 ? least : -1);
        for (int i = 0; i < 300; i++) {
            book(due, hall, k, k < 4 && i < books ? i : RANDOM.nextInt(books), linear);
        }
    }

    private static void book(Due due, LiarHall hall, int k, int bits, List<Integer> linear) {
        int nearest = linear.get(0);
        for (int one : linear) {
            nearest = Integer.bitCount(one ^ bits) < Integer.bitCount(nearest ^ bits) ? one : nearest;
        }
        due.is("linear " + k + " " + bits, hall.book(k, bits, 0), linear.contains(bits) ? 1 : 0);
        due.is("caught " + k + " " + bits, hall.book(k, bits, 1), caught(k, bits));
        due.is("near " + k + " " + bits, hall.book(k, bits, 2), Integer.bitCount(nearest ^ bits));
        due.is("nearest " + k + " " + bits, hall.book(k, bits, 3), nearest);
        for (int z = 0; z < 1 << k; z++) {
            int unlike = 0;
            for (int v = 0; v < 1 << k; v++) {
                unlike += (bits >> (z ^ v) & 1) != (bits >> v & 1) ? 1 : 0;
            }
            due.is("mended " + k + " " + bits + " " + z, hall.mended(k, bits, z), unlike > (1 << k) / 2 ? 1 : 0);
        }
    }
}
