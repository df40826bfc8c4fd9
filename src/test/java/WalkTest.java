import java.lang.reflect.InvocationTargetException;
import java.lang.reflect.Method;
import java.util.Arrays;
import java.util.Collections;
import java.util.List;
import java.util.NoSuchElementException;
import java.util.Random;
import java.util.stream.Collectors;
import java.util.stream.IntStream;

/** Walks of 512 random calls of one hall, each compared with HallModel: what was called before is to leave no trace. */
public final class WalkTest {
    private static final Random RANDOM = new Random(29);
    private static final int HALLS = 80;
    private static final int CALLS = 512;
    private static final int ROWS = 60;
    private static final long THROWN = Long.MIN_VALUE;
    // Behind the name what any() takes: s t l g n numbers of what stands, a number -1 up to it, else see there.
    private static final String[] FACE = {"end 40", "fault 3", "saying", "law", "giant", "said s 9", "truth s 64", "lay x",
        "clear", "worth s p", "sum s p", "prime p", "curve p x", "talk s p l g", "run t S y", "fixed t y", "latest 4",
        "value 3 4", "draw 3", "tries t 5", "spent t 2", "odds t y 2", "best t 2", "bound t 2", "roots t 6", "small s l m",
        "won s 64", "game s 64 p", "steep s 6 6 b", "net 7 e", "alike n n", "shuffle n n 6", "unlike n n S 31", "count 7"};
    // Calls about TALKS, the most of all, are asked more often.
    private static final int FIRST_OF_TALKS = Arrays.asList(FACE).indexOf("talk s p l g");
    private static final int OF_TALKS = Arrays.asList(FACE).indexOf("small s l m") - FIRST_OF_TALKS;
    private static final String[] LAWS = {"c:1;e:1;d:p", "c:1;e:1;d:3", "e:1;d:i+2", "c:i;d:k*4;e:1", "c:1;e:1;d:998+i",
        "c:1;d:2", "c:k>1?1;e:i=n?1;d:i=0?7;d:2"};
    private static final String[] GIANTS = {"s:c;v:t", "s:c+1;v:t+[c-w]/2", "s:c+y;v:j=0?t+c-w;v:t", "s:y;v:l*j-i",
        "s:c+1;v:j=0?c-t;v:t", "v:0-y*j", "s:c*2;v:t*2"};
    private static final int[] PRIMES = {3, 5, 7, 13, 101, 997, 1009, 65537, 1000000007};
    private static final int[] NO_PRIMES = {-7, 0, 1, 2, 9, 91, 1000000005, 1000000009};
    private static final int[] FAR = {-1, 20, 1000, 1000000, 1000001, Integer.MAX_VALUE};

    private final Due due;
    private final LiarHall hall = new LiarHall();
    private final HallModel model = new HallModel();
    private int left = CALLS;

    private WalkTest(Due due) {
        this.due = due;
    }

    public static void main(String[] args) throws ReflectiveOperationException {
        Due due = new Due();
        for (int i = 0; i < HALLS; i++) {
            new WalkTest(due).walk(i % 3);
        }
        due.close("WalkTest");
    }

    /** All walks but each third begin with some of all that can be told. */
    private void walk(int kind) throws ReflectiveOperationException {
        for (int i = 0; i < 4 && kind > 0; i++) {
            tell(0);
            tell(1);
            tell(2);
            call("talk s p l g");
            call("talk s p l g");
            call("net 7 e");
        }
        while (left > 0) {
            int which = RANDOM.nextInt(FACE.length + 8);
            if (which < FACE.length) {
                call(FACE[which]);
            } else if (which < FACE.length + 3) {
                tell(which - FACE.length);
            } else {
                call(FACE[FIRST_OF_TALKS + RANDOM.nextInt(OF_TALKS)]);
            }
        }
    }

    private static String text(int sort) {
        boolean any = RANDOM.nextInt(3) == 0;
        String text = sort == 0 || any ? Texts.whole(RANDOM, sort, 3) : pick(sort == 1 ? LAWS : GIANTS);
        if (text.length() > 40) {
            return text(sort);
        }
        int kind = RANDOM.nextInt(8);
        return kind == 0 ? text.substring(1) : kind == 1 ? text + pick("!", "(", "&", "[", ")", "9", ";", "$") : text;
    }

    private static String pick(String... all) {
        return all[RANDOM.nextInt(all.length)];
    }

    /** Some of a text's bytes stand alone in their numbers. */
    private void tell(int sort) throws ReflectiveOperationException {
        String text = text(sort);
        if (RANDOM.nextInt(8) > 0) {
            ask("end", 0);
        }
        int at = 0;
        while (at < text.length()) {
            Object[] five = new Object[5];
            for (int i = 0; i < 5; i++) {
                int number = 0;
                for (int b = 0; b < 4; b++) {
                    boolean none = at >= text.length() || RANDOM.nextInt(20) == 0;
                    number = number << 8 | (none ? 0 : text.charAt(at++));
                }
                five[i] = number;
            }
            ask("feed", five);
        }
        ask("fault", RANDOM.nextInt(3));
        ask(sort == 0 ? "saying" : sort == 1 ? "law" : "giant");
    }

    private void call(String call) throws ReflectiveOperationException {
        String[] parts = call.split(" ");
        Object[] given = new Object[parts.length - 1];
        for (int i = 0; i < given.length; i++) {
            given[i] = any(parts[i + 1], given);
        }
        // The slow way through more rows would take too long.
        if (parts[0].equals("odds") && model.count(3) > (int) given[0] && (int) given[0] >= 0
                && model.talkAt((int) given[0]).rows() > ROWS) {
            given[2] = 1;
        }
        if (parts[0].equals("net") && !model.nets.isEmpty() && RANDOM.nextBoolean()) {
            given = alikeOne(model.nets.get(RANDOM.nextInt(model.nets.size())));
        }
        ask(parts[0], given);
    }

    private static Object[] alikeOne(int[] net) {
        List<Integer> row = IntStream.range(0, net[0]).boxed().collect(Collectors.toList());
        Collections.shuffle(row, RANDOM);
        return new Object[] {net[0], TablesTest.moved(net[1], net[0], row)};
    }

    private Object any(String kind, Object[] given) {
        switch (kind) {
            case "S":
                return RANDOM.nextInt(4) == 0 ? (long) RANDOM.nextInt(5) - 2 : RANDOM.nextLong();
            case "b":
                return RANDOM.nextBoolean();
            case "e":
                int points = Math.max(0, (int) given[0]);
                return RANDOM.nextInt(6) == 0 ? RANDOM.nextInt(1 << 15) : RANDOM.nextInt(1 << points * (points - 1) / 2);
            case "m":
                return RANDOM.nextInt(3) == 0 ? far() : RANDOM.nextInt(20);
            case "p":
                return RANDOM.nextInt(12) == 0 ? NO_PRIMES[RANDOM.nextInt(NO_PRIMES.length)]
                    : PRIMES[RANDOM.nextInt(PRIMES.length)];
            case "x":
            case "y":
                return RANDOM.nextInt(4) == 0 ? far() : RANDOM.nextInt(9);
            default:
                int what = "slgtn".indexOf(kind);
                int most = what < 0 ? Integer.parseInt(kind) : model.count(what);
                return RANDOM.nextInt(8) == 0 || most < 1 ? RANDOM.nextInt(most + 2) - 1 : RANDOM.nextInt(most);
        }
    }

    private static int far() {
        return FAR[RANDOM.nextInt(FAR.length)];
    }

    private void ask(String name, Object... given) throws ReflectiveOperationException {
        if (left > 0) {
            left--;
            String call = name + Arrays.toString(given) + " with " + left + " calls left";
            due.is(call, answer(hall, name, given), answer(model, name, given));
        }
    }

    private static long answer(Object asked, String name, Object... given) throws ReflectiveOperationException {
        for (Method method : asked.getClass().getDeclaredMethods()) {
            if (method.getName().equals(name) && method.getParameterCount() == given.length) {
                try {
                    Object answer = method.invoke(asked, given);
                    return answer instanceof Boolean ? ((Boolean) answer ? 1 : 0) : ((Number) answer).longValue();
                } catch (InvocationTargetException e) {
                    if (e.getCause() instanceof NoSuchElementException) {
                        return THROWN;
                    }
                    throw e;
                }
            }
        }
        throw new NoSuchMethodException(name);
    }
}
