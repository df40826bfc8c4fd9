import java.util.Random;

/** FAULTS of random texts against Grammar, which looks for endings instead of reading on. */
public final class FaultTest {
    private static final String[] SIGNS = {"abcdef&|!()  ", "cde:;?|&!()[]=<>+-*/0127inkp  ", "sv:;?|&!()[]=<>+-*/0127tcwlijnpy  "};
    private static final Random RANDOM = new Random(5);

    public static void main(String[] args) {
        Due due = new Due();
        for (int sort = 0; sort < 3; sort++) {
            for (int i = 0; i < 2000; i++) {
                String text = i % 3 == 0 ? loose(sort) : broken(Texts.whole(RANDOM, sort, 3), sort, i % 3);
                if (text.length() <= 40) {
                    LiarHall hall = new LiarHall();
                    due.is("fault(" + sort + ") of " + text, Due.faultOf(hall, sort, text), Grammar.faultOf(text, sort));
                }
            }
        }
        deep(due);
        due.close("FaultTest");
    }

    private static String loose(int sort) {
        StringBuilder text = new StringBuilder(sort == 1 ? "c:" : sort == 2 ? "v:" : "");
        for (int left = RANDOM.nextInt(10); left > 0; left--) {
            text.append(SIGNS[sort].charAt(RANDOM.nextInt(SIGNS[sort].length())));
        }
        return text.toString();
    }

    private static String broken(String whole, int sort, int changes) {
        StringBuilder text = new StringBuilder(whole);
        for (int left = changes - 1; left > 0 && text.length() > 0; left--) {
            char sign = SIGNS[sort].charAt(RANDOM.nextInt(SIGNS[sort].length()));
            text.setCharAt(RANDOM.nextInt(text.length()), sign);
        }
        return text.toString();
    }

    /** Marks within one another, up to the bound and beyond it. */
    private static void deep(Due due) {
        for (int i = 0; i < 600; i++) {
            StringBuilder saying = new StringBuilder();
            StringBuilder law = new StringBuilder("c:");
            for (int left = 3 + RANDOM.nextInt(7); left > 0; left--) {
                saying.append(RANDOM.nextBoolean() ? '!' : '(');
                law.append(RANDOM.nextBoolean() ? '!' : '(');
            }
            for (int left = RANDOM.nextInt(8); left > 0; left--) {
                law.append('[');
            }
            saying.append('a');
            law.append("1");
            LiarHall hall = new LiarHall();
            due.is("fault(0) of " + saying, Due.faultOf(hall, 0, saying.toString()), Grammar.faultOf(saying.toString(), 0));
            due.is("fault(1) of " + law, Due.faultOf(hall, 1, law.toString()), Grammar.faultOf(law.toString(), 1));
        }
    }
}
