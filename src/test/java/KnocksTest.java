/** Promises 29 to 39: knocks, keys, offers. */
public final class KnocksTest {
    private static final Due t = new Due();

    public static void main(String[] args) {
        knock();
        pour();
        chance();
        keys();
        jokes();
        offers();
        best();
        bestOfEqual();
        soonest();
        soonestByLaws();
        soonestOfEqual();
        soonestOfAll();
        soonestLater();
        t.end();
    }

    private static void knock() {
        FluxWatch x = new FluxWatch();
        t.due("knock(1000)", x.knock(1000), FluxWatch.BAD);
        t.due("knock(-1000)", x.knock(-1000), FluxWatch.BAD);
        for (int i = 0; i < 60; i++) {
            t.due("knock " + i, x.knock(i % 2 == 0 ? 999 : -999), i);
        }
        t.due("knock 60", x.knock(0), FluxWatch.FULL);
        t.due("knock 60, bad", x.knock(1000), FluxWatch.BAD);
        t.due("sixty knocks", x.count(4), 60);
    }

    private static void pour() {
        FluxWatch x = new FluxWatch();
        t.due("pour(-1)", x.pour(-1), FluxWatch.BAD);
        t.due("pour(4)", x.pour(4), FluxWatch.BAD);
        t.due("pour of a missing one", x.pour(0), FluxWatch.NOTHING);
        x.sheet(0, 0, 24);
        x.mark(0, 1, 999);
        x.mark(0, 2, -999);
        x.mark(0, 3, 80);
        t.due("pour of 24", x.pour(0), 24);
        t.due("24 knocks", x.count(4), 24);
        t.due("one of them fits", x.chance(), 1);
        x.mark(0, 5, 1000);
        t.due("pour up to 1000", x.pour(0), 5);
        x.mark(0, 4, -1000);
        t.due("pour up to -1000", x.pour(0), 4);
        x.sheet(1, 1, 3);
        x.mark(1, 0, FluxWatch.NONE);
        t.due("pour of no number", x.pour(1), 0);
        x.sheet(2, 1, 0);
        t.due("pour of no place", x.pour(2), 0);
        x.sheet(3, 0, 24);
        t.due("pour of 24 more", x.pour(3), 24);
        t.due("57 knocks", x.count(4), 57);
        t.due("no room for four", x.pour(0), FluxWatch.FULL);
        t.due("none came", x.count(4), 57);
        x.mark(0, 3, 2000);
        t.due("room for three", x.pour(0), 3);
        t.due("sixty", x.count(4), 60);
        t.due("none has room", x.pour(1), 0);
        t.due("one has none", x.pour(3), FluxWatch.FULL);
    }

    private static void chance() {
        FluxWatch x = new FluxWatch();
        t.due("of none", x.chance(), 0);
        t.due("width(0) of none", x.width(0), 0);
        t.due("width(1) of none", x.width(1), FluxWatch.NONE);
        int[] heights = {75, 76, 84, 85, -76, -84, -85, 0, 179, 180, -300};
        for (int i = 0; i < heights.length; i++) {
            x.knock(heights[i]);
        }
        t.due("chance", x.chance(), 4);
        x.set(1, 5);
        t.due("chance by a wider pen", x.chance(), 7);
        x.set(0, 180);
        t.due("chance by another wanted", x.chance(), 2);
        x.set(0, 80);
        int[] width = {0, 4, 4, 4, 4, 5, 5, 5, 80, 99, FluxWatch.NONE, FluxWatch.NONE};
        for (int k = 0; k < width.length; k++) {
            t.due("width(" + k + ")", x.width(k), width[k]);
        }
        t.due("width(60)", x.width(60), FluxWatch.NONE);
        t.due("width(61)", x.width(61), FluxWatch.BAD);
        t.due("width(-1)", x.width(-1), FluxWatch.BAD);
        t.due("the pen stays", x.set(1, 5), 5);
        x.knock(80);
        t.due("a knock of just that height", x.width(1), 0);
    }

    private static void keys() {
        FluxWatch x = new FluxWatch();
        t.due("key below 0", x.key(-1, 3), FluxWatch.BAD);
        t.due("key beyond 1999", x.key(3, 2000), FluxWatch.BAD);
        t.due("key backwards", x.key(4, 3), FluxWatch.BAD);
        t.due("key of one day", x.key(3, 3), 0);
        t.due("key of all days", x.key(0, 1999), 1);
        t.due("key(2, 5)", x.key(2, 5), 2);
        int[] days = {0, 1, 2, 3, 4, 5, 6, 1999};
        int[] had = {1, 1, 2, 3, 2, 2, 1, 1};
        for (int i = 0; i < days.length; i++) {
            t.due("keys(" + days[i] + ")", x.keys(days[i]), had[i]);
        }
        t.due("keys(-1)", x.keys(-1), FluxWatch.BAD);
        t.due("keys(2000)", x.keys(2000), FluxWatch.BAD);
        for (int i = 3; i < 10; i++) {
            t.due("key " + i, x.key(7, 8), i);
        }
        t.due("key 10", x.key(7, 8), FluxWatch.FULL);
        t.due("key 10, bad", x.key(8, 7), FluxWatch.BAD);
        t.due("ten keys", x.count(5), 10);
        t.due("eight are had", x.keys(7), 8);
    }

    private static void jokes() {
        FluxWatch x = new FluxWatch();
        x.coil(1);
        x.run(5);
        x.step(0, 0, 2, 80);
        x.step(0, 0, 3, -80);
        x.step(1, 0, 3, -80);
        x.step(4, 0, 3, 80);
        x.step(0, 0, 4, 80);
        x.step(0, 0, 3, 90);
        t.due("without keys", x.jokes(), 0);
        x.key(3, 3);
        t.due("on day 3", x.jokes(), 1);
        x.key(1, 3);
        t.due("each counts once", x.jokes(), 2);
        x.key(4, 9);
        t.due("on day 4", x.jokes(), 3);
        x.drop(5);
        x.drop(4);
        t.due("one is dropped", x.jokes(), 2);
    }

    private static void offers() {
        FluxWatch x = new FluxWatch();
        t.due("size 0", x.offer(0, 0), FluxWatch.BAD);
        t.due("size 10", x.offer(10, 0), FluxWatch.BAD);
        t.due("price -1", x.offer(1, -1), FluxWatch.BAD);
        t.due("price 1000", x.offer(1, 1000), FluxWatch.BAD);
        t.due("clear of none", x.clear(), 0);
        t.due("offer 0", x.offer(1, 0), 0);
        t.due("offer 1", x.offer(9, 999), 1);
        for (int i = 2; i < 8; i++) {
            t.due("offer " + i, x.offer(1, 1), i);
        }
        t.due("offer 8", x.offer(1, 1), FluxWatch.FULL);
        t.due("offer 8, bad", x.offer(0, 1), FluxWatch.BAD);
        t.due("eight offers", x.count(6), 8);
        t.due("clear", x.clear(), 8);
        t.due("no offers", x.count(6), 0);
        t.due("nothing to buy", x.best(9999, 1), 0);
        t.due("offer 0 again", x.offer(2, 2), 0);
        t.due("the old ones are gone", x.best(9999, 1), 2);
    }

    private static void best() {
        FluxWatch x = new FluxWatch();
        t.due("of none", x.best(0, 0), 0);
        t.due("size of none", x.best(0, 1), 0);
        t.due("price of none", x.best(0, 2), 0);
        for (int i = 0; i < 8; i++) {
            x.offer(9, 999);
        }
        t.due("all", x.best(9999, 0), 255);
        t.due("size of all", x.best(9999, 1), 72);
        t.due("price of all", x.best(9999, 2), 7992);
        t.due("all but one", x.best(7991, 0), 127);
        t.due("one", x.best(999, 0), 1);
        t.due("none", x.best(998, 0), 0);
        t.due("sum -1", x.best(-1, 0), FluxWatch.BAD);
        t.due("sum 10000", x.best(10000, 0), FluxWatch.BAD);
        t.due("what -1", x.best(0, -1), FluxWatch.BAD);
        t.due("what 3", x.best(0, 3), FluxWatch.BAD);
    }

    private static void bestOfEqual() {
        FluxWatch x = new FluxWatch();
        x.offer(4, 10);
        x.offer(2, 4);
        x.offer(2, 5);
        x.offer(4, 9);
        x.offer(4, 9);
        t.due("the least bits of the cheapest", x.best(10, 0), 6);
        t.due("its price", x.best(10, 2), 9);
        t.due("its size", x.best(10, 1), 4);
        x.offer(2, 4);
        t.due("two small ones are cheaper", x.best(10, 0), 2 + 32);
        t.due("eight", x.best(8, 2), 8);
    }

    private static void soonest() {
        FluxWatch x = new FluxWatch();
        x.coil(1);
        x.watch(0, 0, 1999);
        x.offer(9, 100);
        x.offer(3, 20);
        x.offer(2, 1);
        t.due("sum -1", x.soonest(-1, 0, 0), FluxWatch.BAD);
        t.due("sum 10000", x.soonest(10000, 0, 0), FluxWatch.BAD);
        t.due("v -1", x.soonest(0, -1, 0), FluxWatch.BAD);
        t.due("v 10001", x.soonest(0, 10001, 0), FluxWatch.BAD);
        t.due("what -1", x.soonest(0, 0, -1), FluxWatch.BAD);
        t.due("what 3", x.soonest(0, 0, 3), FluxWatch.BAD);
        t.due("never below 0", x.soonest(9999, 0, 0), FluxWatch.NONE);
        t.due("at once: no set at all", x.soonest(9999, 10000, 0), 0);
        t.due("at once: one day", x.soonest(9999, 10000, 1), 1);
        t.due("at once: for nothing", x.soonest(9999, 10000, 2), 0);
        // of 1 alone r and q are the same: belief stays
        t.due("without money", x.soonest(0, 5000, 0), FluxWatch.NONE);
        t.due("a little falls at once", x.soonest(1, 5000, 0), 4);
        t.due("for 1", x.soonest(1, 5000, 2), 1);
        t.due("in one day", x.soonest(1, 5000, 1), 1);
        // each day r is 1 + 2, q is 1: 4994 first
        t.due("below 4995", x.soonest(1, 4995, 1), 1);
        t.due("below 4994", x.soonest(1, 4994, 1), 2);
        t.due("the larger one", x.soonest(120, 4970, 0), 3);
        t.due("the largest that is needed", x.soonest(9999, 4971, 0), 3);
        t.due("bits of all", x.soonest(9999, 4966, 0), 7);
    }

    private static void soonestByLaws() {
        FluxWatch x = new FluxWatch();
        x.offer(5, 3);
        x.offer(6, 3);
        Due.law(x, "rate (s = 5) * (d > 57) * 900");
        Due.law(x, "knock 0");
        t.due("just five", x.soonest(99, 1000, 0), 1);
        t.due("on day 58, the 59th", x.soonest(99, 1000, 1), 59);
        x.set(2, 10000);
        t.due("what is sure stays sure", x.soonest(99, 1000, 1), FluxWatch.NONE);
        x.set(2, 5000);
        Due.law(x, "rate (d = 59) * s * 100");
        t.due("the 60th day", x.soonest(5, 4000, 1), 60);
        t.due("of two at one price the least bits", x.soonest(6, 4000, 0), 1);
        t.due("the larger one is needed", x.soonest(6, 3000, 0), 2);
        t.due("both are needed", x.soonest(6, 2000, 0), 3);
        Due.law(x, "rate (d = 60) * 900");
        t.due("the 61st day", x.soonest(99, 4000, 0), FluxWatch.NONE);
        x.run(1);
        x.set(2, 5000);
        t.due("a day later", x.soonest(99, 4000, 1), 60);
        Due.law(x, "rate 500");
        Due.law(x, "knock 500 - 100 * (s > 10)");
        t.due("more seen goes into knock, too", x.soonest(6, 5000, 0), 3);
        x.coil(1);
        x.step(0, 0, 1, 80);
        Due.law(x, "knock 500 + 100 * (s > 10)");
        t.due("a step that fits", x.soonest(6, 5000, 0), 3);
        t.due("a step that fits lifts it", x.soonest(5, 5000, 0), FluxWatch.NONE);
    }

    private static void soonestOfEqual() {
        FluxWatch x = new FluxWatch();
        x.offer(8, 9);
        x.offer(5, 7);
        x.offer(3, 1);
        x.offer(8, 8);
        Due.law(x, "rate (s > 7) * 600");
        t.due("the least bits of the cheapest", x.soonest(20, 3000, 0), 6);
        t.due("their price", x.soonest(20, 3000, 2), 8);
        t.due("their days", x.soonest(20, 3000, 1), 1);
        t.due("two days", x.soonest(20, 2000, 1), 2);
        t.due("too dear", x.soonest(7, 3000, 1), FluxWatch.NONE);
    }

    private static void soonestOfAll() {
        FluxWatch x = new FluxWatch();
        for (int i = 0; i < 8; i++) {
            x.offer(9, 1);
        }
        Due.law(x, "rate (s = 72) * 900");
        t.due("all are needed", x.soonest(8, 3000, 0), 255);
        t.due("on the first day", x.soonest(8, 3000, 1), 1);
        t.due("their price", x.soonest(8, 3000, 2), 8);
        x.clear();
        x.offer(9, 1);
        t.due("those that were cleared are gone", x.soonest(99, 3000, 0), FluxWatch.NONE);
        t.due("for the best, too", x.best(99, 1), 9);
    }

    /** Days are those from the open one on, with what is seen on each of them. */
    private static void soonestLater() {
        FluxWatch x = new FluxWatch();
        x.coil(9);
        x.watch(0, 10, 1999);
        x.run(7);
        x.set(2, 5000);
        t.due("without offers as it falls", x.soonest(0, 4990, 1), x.falls(4990) - 7 + 1);
        t.due("on day 10, the fourth", x.soonest(0, 4990, 1), 4);
        x.offer(5, 1);
        t.due("an offer is sooner", x.soonest(1, 4990, 1), 1);
        x.step(0, 0, 6, 80);
        t.due("a step of a day that is gone", x.soonest(0, 4990, 1), 4);
        x.step(0, 0, 7, 80);
        t.due("a step of the open day, on which nothing is seen", x.soonest(1, 1, 1), 1);
        t.due("is a knock only without the offer", x.soonest(1, 1, 0), 0);
    }
}
