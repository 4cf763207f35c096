import java.util.ArrayList;
import java.util.List;

/**
 * Asks an object for all that can be asked, part by part (so that no part goes beyond its 512 calls):
 * two objects that answer alike are taken for alike. The object is not of use afterwards.
 */
final class Probe {
    static final int PARTS = 6;
    private static final int[] DAYS = {0, 1, 2, 3, 5, 9, 10, 59, 60, 1998, 1999};

    private final FluxWatch x;
    private final List<Integer> answers = new ArrayList<>();
    private int calls;

    private Probe(FluxWatch x, int calls) {
        this.x = x;
        this.calls = calls;
    }

    /** What an object answers on which so many calls were made. */
    static List<Integer> of(FluxWatch x, int part, int calls) {
        Probe p = new Probe(x, calls);
        switch (part) {
            case 0 -> p.things();
            case 1 -> p.daysAndLaws();
            case 2 -> p.knocksKeysOffers();
            case 3 -> p.slotsAndSheets();
            case 4 -> p.goingOn();
            default -> p.image();
        }
        if (p.calls > 512) {
            throw new IllegalStateException("a probe of " + p.calls + " calls");
        }
        return p.answers;
    }

    private int ask(int answer) {
        calls++;
        answers.add(answer);
        return answer;
    }

    private void things() {
        for (int i = 0; i <= 12; i++) {
            ask(x.count(i));
        }
        int coils = ask(x.count(0));
        for (int coil = 0; coil < coils; coil++) {
            for (int what = 0; what < 5; what++) {
                ask(x.coilTold(coil, what));
            }
        }
        steps();
        ask(x.set(0, 80));
        ask(x.set(1, 4));
        ask(x.set(2, 5000));
        ask(x.set(3, 0));
    }

    private void steps() {
        int steps = ask(x.count(2));
        for (int i = 0; i < steps; i++) {
            for (int what = 0; what < 4; what++) {
                ask(x.told(i, what));
            }
        }
    }

    private void daysAndLaws() {
        for (int day : DAYS) {
            ask(x.seen(day));
            ask(x.line(0, day));
            for (int what = 0; what < 3; what++) {
                ask(x.news(day, what));
            }
        }
        int texts = ask(x.count(3));
        for (int i = 0; i < texts; i++) {
            ask(x.textTold(i, 0));
            ask(x.textTold(i, 1));
        }
        for (int key = 0; key < 3; key++) {
            ask(x.why(key));
        }
        ask(x.fit());
        ask(x.since(7));
        ask(x.falls(4000));
        ask(x.await());
        ask(x.beyond());
    }

    private void knocksKeysOffers() {
        ask(x.chance());
        int knocks = ask(x.count(4));
        for (int k = 1; k <= knocks; k++) {
            ask(x.width(k));
        }
        for (int day : DAYS) {
            ask(x.keys(day));
        }
        ask(x.jokes());
        for (int sum = 0; sum <= 20; sum += 5) {
            ask(x.best(sum, 0));
        }
        ask(x.best(9999, 1));
        ask(x.best(9999, 2));
        ask(x.soonest(9999, 4000, 0));
    }

    private void slotsAndSheets() {
        for (int slot = 0; slot < 5; slot++) {
            ask(x.rest(slot, 1000003));
            ask(x.ask(slot, 0));
            for (int place = 0; place < 25; place++) {
                ask(x.item(slot, place));
            }
        }
        for (int sheet = 0; sheet < 4; sheet++) {
            ask(x.lay(0, 0, 0));
            ask(x.lay(0, 2, sheet));
            for (int place = 0; place < 25; place++) {
                ask(x.item(0, place));
            }
            ask(x.mark(sheet, 0, FluxWatch.NONE));
        }
    }

    /** What waits on the tape and in the row of numbers, and the days to come. */
    private void goingOn() {
        ask(x.count(10));
        ask(x.count(11));
        ask(x.text());
        ask(x.textTold(ask(x.count(3)) - 1, 1));
        ask(x.why(0));
        ask(x.news(0, 0));
        ask(x.keep());
        ask(x.check(2));
        ask(x.seed(ask(x.count(12))));
        for (int day = 0; day < 5; day++) {
            ask(x.run(1));
        }
        steps();
    }

    private void image() {
        ask(x.tell(5000));
        ask(x.check(1));
        ask(x.back());
        things();
        for (int key = 0; key < 3; key++) {
            ask(x.why(key));
        }
        ask(x.chance());
        ask(x.keys(0));
        ask(x.best(9999, 1));
        ask(x.seen(0));
    }
}
