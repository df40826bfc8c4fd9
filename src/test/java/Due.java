import java.util.NoSuchElementException;

/** Counts what is not as due, and feeds texts. */
final class Due {
    private int wrong;
    private int asked;

    void is(String call, long got, long want) {
        asked++;
        if (got != want) {
            wrong++;
            if (wrong < 30) {
                System.out.println(call + " answered " + got + ", due is " + want);
            }
        }
    }

    void is(String call, boolean got, boolean want) {
        is(call, got ? 1 : 0, want ? 1 : 0);
    }

    void noValue(String call, LiarHall hall, int round, int j) {
        boolean thrown = false;
        try {
            hall.value(round, j);
        } catch (NoSuchElementException e) {
            thrown = true;
        }
        is(call, thrown, true);
    }

    void close(String test) {
        System.out.println(test + ": " + asked + " answers, " + wrong + " not as due");
        if (wrong > 0 || asked == 0) {
            System.exit(1);
        }
    }

    /** The TAPE is the text alone. */
    static void tell(LiarHall hall, String text) {
        hall.end(0);
        more(hall, text);
    }

    static void more(LiarHall hall, String text) {
        for (int from = 0; from < text.length(); from += 20) {
            int[] five = new int[5];
            for (int i = 0; i < 20; i++) {
                int sign = from + i < text.length() ? text.charAt(from + i) : 0;
                five[i / 4] = five[i / 4] << 8 | sign;
            }
            hall.feed(five[0], five[1], five[2], five[3], five[4]);
        }
    }

    static int faultOf(LiarHall hall, int sort, String text) {
        tell(hall, text);
        return hall.fault(sort);
    }

    static int saying(LiarHall hall, String text) {
        tell(hall, text);
        return hall.saying();
    }

    static int law(LiarHall hall, String text) {
        tell(hall, text);
        return hall.law();
    }

    static int giant(LiarHall hall, String text) {
        tell(hall, text);
        return hall.giant();
    }

    /** A hall with one TALK, number 0, of these. */
    static LiarHall talk(String saying, int prime, String law, String giant) {
        LiarHall hall = new LiarHall();
        saying(hall, saying);
        law(hall, law);
        giant(hall, giant);
        if (hall.talk(0, prime, 0, 0) != 0) {
            throw new IllegalArgumentException("no talk: " + saying + " / " + law + " / " + giant);
        }
        return hall;
    }

    static void point(LiarHall hall, int... numbers) {
        hall.clear();
        for (int number : numbers) {
            hall.lay(number);
        }
    }

    static String times(String text, int many) {
        return text.repeat(many);
    }
}
