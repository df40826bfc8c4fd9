import java.util.NoSuchElementException;

/** What a hall answers to many calls, the last of which use up what stands on it: two halls alike answer alike. */
final class Probe {
    private final LiarHall hall;
    private final StringBuilder all = new StringBuilder();

    private Probe(LiarHall hall) {
        this.hall = hall;
    }

    /** Some 200 calls; what was told to the hall before is to stay below 300. */
    static String answers(LiarHall hall) {
        Probe probe = new Probe(hall);
        probe.counts();
        probe.latestRun();
        probe.point();
        probe.sayings();
        probe.talks();
        probe.nets();
        probe.tape();
        probe.what("tapes, told", hall.count(6), hall.end(0) ? 1 : 0);
        probe.goOn();
        probe.counts();
        return probe.all.toString();
    }

    private void what(String name, long... answers) {
        all.append(name);
        for (long answer : answers) {
            all.append(' ').append(answer);
        }
        all.append('\n');
    }

    private void counts() {
        for (int what = 0; what < 7; what++) {
            what("count " + what, hall.count(what));
        }
    }

    private void latestRun() {
        what("latest", hall.latest(0), hall.latest(1), hall.latest(2), hall.latest(3));
        for (int round = 0; round < 3; round++) {
            what("round " + round, hall.draw(round), value(round, 0), value(round, 1), value(round, 2));
        }
    }

    private long value(int round, int j) {
        try {
            return hall.value(round, j);
        } catch (NoSuchElementException e) {
            return Long.MIN_VALUE;
        }
    }

    private void point() {
        for (int x = 0; x < 6; x++) {
            what("point " + x, hall.curve(1000000007, x));
        }
    }

    private void sayings() {
        for (int saying = 0; saying < 20; saying += saying < 2 ? 1 : 17) {
            for (int what = 0; what < 9; what++) {
                what("said " + saying + " " + what, hall.said(saying, what));
            }
            what("truths " + saying, hall.truth(saying, 3), hall.truth(saying, 5), hall.truth(saying, 56));
            what("worths " + saying, hall.worth(saying, 97), hall.sum(saying, 97), hall.game(saying, 5, 97));
        }
    }

    private void talks() {
        for (int talk = 0; talk < 12; talk += 11) {
            what("spent", hall.spent(talk, 0), hall.odds(talk, 0, 0), hall.odds(talk, 1, 1), hall.roots(talk, 0));
            what("chances", hall.best(talk, 0), hall.best(talk, 1), hall.bound(talk, 0), hall.tries(talk, 2));
        }
        what("small", hall.small(0, 0, 9), hall.small(0, 11, 9));
    }

    private void nets() {
        what("alike", hall.alike(0, 1), hall.alike(0, 2), hall.alike(0, 11), hall.unlike(0, 1, 7, 30));
        what("shuffle", hall.shuffle(0, 1, 0), hall.shuffle(0, 1, 1), hall.shuffle(0, 1, 2), hall.shuffle(0, 1, 3));
    }

    /** The TAPE is told by its FAULTS, by how it goes on and by what is made of it. */
    private void tape() {
        what("faults", hall.fault(0), hall.fault(1), hall.fault(2));
        what("made of it", hall.saying(), hall.law(), hall.giant());
        int bytes = hall.count(6);
        for (int less = 1; less <= bytes; less *= 3) {
            what("end", hall.end(bytes - less) ? 1 : 0);
            what("faults", hall.fault(0), hall.fault(1), hall.fault(2));
        }
        what("made of the rest", hall.saying(), hall.law(), hall.giant());
        int last = hall.count(0) - 1;
        what("the last saying", hall.said(last, 0), hall.said(last, 1), hall.said(last, 2));
    }

    /** What is told next, and how runs go on. */
    private void goOn() {
        what("lay", hall.lay(77), hall.curve(1000000007, 5), hall.clear(), hall.clear());
        what("saying", Due.saying(hall, "a|b"), Due.law(hall, "c:1;e:1;d:5"), Due.giant(hall, "s:y;v:t+j"));
        what("net", hall.net(4, 9), hall.alike(hall.count(4) - 1, 0));
        int talk = hall.talk(0, 101, hall.count(1) - 1, hall.count(2) - 1);
        what("talk", talk, hall.run(talk, 1234567, 3));
        latestRun();
        what("fixed", hall.fixed(0, 1));
        latestRun();
    }
}
