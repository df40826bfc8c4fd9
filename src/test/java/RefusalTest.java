import java.util.NoSuchElementException;
import java.util.Random;

/** Any calls at all: nothing is thrown but by value(), and what is refused changes nothing. */
public final class RefusalTest {
    private static final Random RANDOM = new Random(23);
    private static final int[] ODD = {Integer.MIN_VALUE, -2, -1, 0, 1, 2, 3, 4, 5, 6, 7, 11, 12, 13, 20, 30, 31, 63, 64,
        97, 200, 201, 1000, 1009, 1000000, 1000001, 1000000007, 1000000008, Integer.MAX_VALUE};

    public static void main(String[] args) {
        Due due = new Due();
        for (int i = 0; i < 1500; i++) {
            LiarHall hall = new LiarHall();
            for (int call = 0; call < 512; call++) {
                call(due, hall, RANDOM.nextInt(44));
            }
        }
        due.close("RefusalTest");
    }

    private static int any() {
        return RANDOM.nextInt(4) > 0 ? RANDOM.nextInt(8) - 1 : ODD[RANDOM.nextInt(ODD.length)];
    }

    private static int anyPrime() {
        return RANDOM.nextInt(4) > 0 ? new int[] {3, 5, 7, 13, 997, 1000000007}[RANDOM.nextInt(6)] : any();
    }

    private static String counts(LiarHall hall) {
        StringBuilder all = new StringBuilder();
        for (int what = 0; what < 7; what++) {
            all.append(hall.count(what)).append(' ');
        }
        for (int what = 0; what < 4; what++) {
            all.append(hall.latest(what)).append(' ');
        }
        return all.append(hall.draw(0)).toString();
    }

    private static void call(Due due, LiarHall hall, int which) {
        String before = counts(hall);
        try {
            long got = answer(hall, which);
            if (got == -1) {
                due.is("refused " + which + " changed " + before + " to " + counts(hall), before.equals(counts(hall)), true);
            }
        } catch (NoSuchElementException e) {
            due.is("call " + which + " threw", which, 20);
        } catch (RuntimeException e) {
            due.is("call " + which + " threw " + e, 1, 0);
        }
    }

    private static long answer(LiarHall hall, int which) {
        switch (which) {
            case 0:
                return hall.feed(RANDOM.nextInt(), RANDOM.nextInt(), 0, RANDOM.nextInt(), any());
            case 1:
                return hall.end(any()) ? 1 : 0;
            case 2:
                return hall.fault(any()) == -1 ? 7 : 8;
            case 3:
                return hall.saying();
            case 4:
                return Due.saying(hall, Texts.saying(RANDOM, 6, 2)) < 0 ? 7 : 8;
            case 5:
                return Due.law(hall, "c:1;e:1;d:" + (RANDOM.nextBoolean() ? "p" : "3")) < 0 ? 7 : 8;
            case 6:
                return Due.giant(hall, "s:c;v:t+y*j") < 0 ? 7 : 8;
            case 7:
                return hall.said(any(), any());
            case 8:
                return hall.truth(any(), any());
            case 9:
                return hall.lay(any());
            case 10:
                return hall.clear();
            case 11:
                return hall.worth(any(), anyPrime());
            case 12:
                return hall.sum(any(), anyPrime());
            case 13:
                return hall.prime(any()) ? 1 : 0;
            case 14:
                return hall.curve(anyPrime(), any());
            case 15:
                return hall.law();
            case 16:
                return hall.giant();
            case 17:
                return hall.talk(any(), anyPrime(), any(), any());
            default:
                return which < 30 ? talkAnswer(hall, which) : otherAnswer(hall, which);
        }
    }

    private static long talkAnswer(LiarHall hall, int which) {
        switch (which) {
            case 18:
                return Math.max(0, hall.run(any(), RANDOM.nextLong(), any()));
            case 19:
                return Math.max(0, hall.fixed(any(), any()));
            case 20:
                return hall.value(any(), any());
            case 21:
                return hall.draw(any());
            case 22:
                return hall.latest(any());
            case 23:
                return hall.tries(any(), any());
            case 24:
                return hall.spent(any(), any());
            case 25:
                return hall.odds(any(), any(), any());
            case 26:
                return hall.best(any(), any());
            case 27:
                return hall.bound(any(), any());
            case 28:
                return hall.roots(any(), any());
            default:
                return hall.small(any(), any(), any());
        }
    }

    private static long otherAnswer(LiarHall hall, int which) {
        switch (which) {
            case 30:
                return hall.won(any(), any());
            case 31:
                return hall.game(any(), any(), anyPrime());
            case 32:
                return hall.steep(any(), any(), any(), RANDOM.nextBoolean());
            case 33:
                return hall.net(any(), RANDOM.nextInt(1 << 15));
            case 34:
                return hall.net(any(), any());
            case 35:
                return hall.alike(any(), any());
            case 36:
                return hall.shuffle(any(), any(), any());
            case 37:
                return hall.unlike(any(), any(), RANDOM.nextLong(), any());
            case 38:
                return hall.rooms(RANDOM.nextLong() >> RANDOM.nextInt(40), any());
            case 39:
                return hall.book(any(), any(), any());
            case 40:
                return hall.mended(any(), any(), any());
            case 41:
                return hall.least(any(), any());
            default:
                return hall.count(any());
        }
    }
}
