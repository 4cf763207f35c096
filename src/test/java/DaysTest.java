/** Promises 17 to 23: days. */
public final class DaysTest {
    private static final Due t = new Due();

    public static void main(String[] args) {
        runRefused();
        beliefByNews();
        beliefStays();
        drawsWithoutWorld();
        drawsWithWorld();
        drawsWithoutRoom();
        drawsUnwatched();
        news();
        since();
        falls();
        await();
        beyond();
        seed();
        t.end();
    }

    private static int next(int z) {
        return z * 1103515245 + 12345;
    }

    private static void runRefused() {
        FluxWatch x = new FluxWatch();
        t.due("run(0)", x.run(0), FluxWatch.BAD);
        t.due("run(-1)", x.run(-1), FluxWatch.BAD);
        t.due("run(61)", x.run(61), FluxWatch.BAD);
        t.due("no day went by", x.count(9), 0);
        t.due("nothing was drawn", x.count(12), 1);
        for (int i = 0; i < 33; i++) {
            x.run(60);
        }
        t.due("day 1980", x.count(9), 1980);
        t.due("beyond 1999", x.run(20), FluxWatch.FULL);
        t.due("bad ahead of full", x.run(61), FluxWatch.BAD);
        t.due("still day 1980", x.count(9), 1980);
        t.due("to 1999", x.run(19) >= 0 ? 1 : 0, 1);
        t.due("day 1999", x.count(9), 1999);
        t.due("one more", x.run(1), FluxWatch.FULL);
    }

    private static void beliefByNews() {
        FluxWatch x = new FluxWatch();
        x.coil(5);
        x.watch(0, 0, 10);
        // 5000 * 995 against 5000 * 999
        t.due("nothing came", x.run(1), 4989);
        x.step(1, 0, 1, 80);
        // 4989 * 5 against 5011 * 1
        t.due("a step came", x.run(1), 8327);
        x.step(1, 0, 2, 90);
        // 8327 * 995 against 1673 * 999
        t.due("a step that does not fit", x.run(1), 8321);
        Due.law(x, "rate 999");
        Due.law(x, "knock 0");
        // 8321 * 1 against 1679 * 1000
        t.due("a great rate, nothing came", x.run(1), 49);
        x.step(0, 0, 4, -80);
        // 49 * 999 against nothing
        t.due("knocks never, a step came", x.run(1), 10000);
    }

    private static void beliefStays() {
        FluxWatch x = new FluxWatch();
        x.coil(5);
        Due.law(x, "knock 0");
        x.step(0, 0, 0, 80);
        t.due("x and y are 0", x.run(1), 5000);
        x.set(2, 7);
        x.step(0, 0, 1, 80);
        t.due("x and y are 0 again", x.since(1), 7);
        Due.law(x, "rate 1");
        x.set(2, 1);
        t.due("x and y are 1", x.since(1), 10000);
    }

    private static void drawsWithoutWorld() {
        FluxWatch x = new FluxWatch();
        for (int i = 0; i < 5; i++) {
            x.coil(1);
        }
        x.watch(1, 0, 0);
        x.watch(3, 0, 1);
        x.watch(4, 0, 1);
        Due.law(x, "knock 999");
        x.seed(12);
        int z = next(12);
        int z2 = next(z);
        int z3 = next(z2);
        int[] watched = {1, 3, 4};
        t.due("the first draw is below 999", (z >>> 8) % 1000 < 999 ? 1 : 0, 1);
        x.run(1);
        t.due("three draws", x.count(12), z3);
        t.due("one step", x.count(2), 1);
        t.due("knocked", x.told(0, 0), 2);
        t.due("its coil", x.told(0, 1), watched[(z2 >>> 8) % 3]);
        t.due("its day", x.told(0, 2), 0);
        t.due("its height", x.told(0, 3), 1 + (z3 >>> 8) % 99);
        x.knock(-500);
        x.knock(81);
        x.knock(400);
        x.knock(-83);
        x.knock(5);
        int[] heights = {-500, 81, 400, -83, 5};
        int[] second = {3, 4};
        int z4 = next(next(z3));
        int z5 = next(z4);
        x.run(1);
        t.due("three draws more", x.count(12), z5);
        t.due("its coil, of two", x.told(1, 1), second[(z4 >>> 8) % 2]);
        t.due("its day then", x.told(1, 2), 1);
        t.due("its height, a knock's", x.told(1, 3), heights[(z5 >>> 8) % 5]);
        oneKnock();
    }

    private static void oneKnock() {
        FluxWatch x = new FluxWatch();
        x.coil(1);
        x.watch(0, 0, 0);
        x.knock(-321);
        Due.law(x, "knock 999");
        x.run(1);
        t.due("the only coil", x.told(0, 1), 0);
        t.due("the only knock", x.told(0, 3), -321);
    }

    private static void drawsWithWorld() {
        FluxWatch x = new FluxWatch();
        x.coil(1);
        x.coil(2);
        x.coil(3);
        x.watch(2, 0, 5);
        x.watch(1, 0, 5);
        x.set(0, 123);
        x.set(3, 1);
        Due.law(x, "rate 999");
        Due.law(x, "knock 0");
        x.seed(5);
        x.run(1);
        t.due("two draws", x.count(12), next(next(5)));
        t.due("one step", x.count(2), 1);
        t.due("just", x.told(0, 0), 1);
        t.due("the least coil that is watched", x.told(0, 1), 1);
        t.due("its day", x.told(0, 2), 0);
        t.due("its height", x.told(0, 3), 123);
        t.due("the news of it", x.count(8), 10000);
        x.set(3, 0);
        x.run(1);
        t.due("the world is silent", x.count(2), 1);
        t.due("one draw", x.count(12), next(next(next(5))));
        rateIsALimit();
    }

    /** A draw of just the rate gives no step; of one less it does. */
    private static void rateIsALimit() {
        int rest = (next(77) >>> 8) % 1000;
        for (int more = 0; more < 2; more++) {
            FluxWatch x = new FluxWatch();
            x.coil(1);
            x.watch(0, 0, 0);
            x.set(3, 1);
            Due.law(x, "rate " + (rest + more));
            Due.law(x, "knock 0");
            x.seed(77);
            x.run(1);
            t.due("rate " + more + " above the draw", x.count(2), more);
        }
        for (int more = 0; more < 2; more++) {
            FluxWatch x = new FluxWatch();
            x.coil(1);
            x.watch(0, 0, 0);
            Due.law(x, "knock " + (rest + more));
            x.seed(77);
            x.run(1);
            t.due("knock " + more + " above the draw", x.count(2), more);
        }
    }

    private static void drawsWithoutRoom() {
        FluxWatch x = new FluxWatch();
        x.coil(1);
        x.watch(0, 0, 5);
        x.set(3, 1);
        Due.law(x, "rate 999");
        Due.law(x, "knock 999");
        for (int i = 0; i < 39; i++) {
            x.step(0, 0, 0, 1);
        }
        x.seed(5);
        x.run(1);
        t.due("room for one", x.count(2), 40);
        t.due("the just one comes first", x.told(39, 0), 1);
        t.due("a knock without room draws once", x.count(12), next(next(5)));
        x.run(1);
        t.due("room for none", x.count(2), 40);
        t.due("two draws all the same", x.count(12), next(next(next(next(5)))));
    }

    private static void drawsUnwatched() {
        FluxWatch x = new FluxWatch();
        x.coil(1);
        x.watch(0, 1, 5);
        x.set(3, 1);
        Due.law(x, "rate 999");
        Due.law(x, "knock 999");
        x.seed(5);
        x.run(1);
        t.due("nothing is watched", x.count(2), 0);
        t.due("two draws", x.count(12), next(next(5)));
    }

    private static void news() {
        FluxWatch x = new FluxWatch();
        x.coil(4);
        x.coil(5);
        x.watch(0, 0, 9);
        x.watch(1, 3, 1999);
        t.due("r without a text", x.news(3, 0), 9);
        t.due("r of another day", x.news(0, 0), 4);
        t.due("q without a text", x.news(3, 1), 1);
        t.due("no step fits", x.news(0, 2), 0);
        x.step(1, 0, 0, 80);
        t.due("a step fits", x.news(0, 2), 1);
        t.due("none of the next day", x.news(1, 2), 0);
        x.turns(0, 4);
        t.due("a played one does not", x.news(0, 2), 0);
        Due.law(x, "rate d*1000+w");
        Due.law(x, "knock 0-d+p");
        t.due("r held below", x.news(1, 0), 999);
        t.due("r of day 0", x.news(0, 0), 80);
        t.due("q of day 3", x.news(3, 1), 1);
        t.due("q held above", x.news(5, 1), 0);
        Due.law(x, "rate 0-1");
        Due.law(x, "knock s*200");
        t.due("r held above", x.news(0, 0), 0);
        t.due("q held below", x.news(4, 1), 999);
        t.due("day -1", x.news(-1, 0), FluxWatch.BAD);
        t.due("day 2000", x.news(2000, 0), FluxWatch.BAD);
        t.due("what 3", x.news(0, 3), FluxWatch.BAD);
        t.due("what -1", x.news(0, -1), FluxWatch.BAD);
        t.due("day 1999", x.news(1999, 1), 999);
    }

    private static void since() {
        FluxWatch x = new FluxWatch();
        x.coil(9);
        x.watch(0, 1, 2);
        x.step(1, 0, 0, 80);
        t.due("since(-1)", x.since(-1), FluxWatch.BAD);
        t.due("since(201)", x.since(201), FluxWatch.BAD);
        t.due("since(200)", x.since(200), 0);
        t.due("since(0)", x.since(0), 5000);
        // r is 0 on day 0: a step that fits is a knock
        t.due("since(1)", x.since(1), 0);
        x.drop(0);
        // 5000 * 1000 against 5000 * 999
        t.due("nothing seen", x.since(1), 5002);
        // 5002 * 991 against 4998 * 999
        t.due("seen", x.since(2), 4981);
        t.due("nothing is drawn", x.count(12), 1);
        t.due("no day goes by", x.count(9), 0);
        t.due("belief stays", x.count(8), 5000);
        daysAbove();
    }

    /** Days above 1999 count: their numbers go into the laws. */
    private static void daysAbove() {
        FluxWatch x = new FluxWatch();
        for (int i = 0; i < 33; i++) {
            x.run(60);
        }
        x.run(19);
        Due.law(x, "rate (d > 2009) * 500");
        Due.law(x, "knock 0");
        x.set(2, 5000);
        t.due("up to 2009", x.since(11), 5000);
        t.due("2010", x.since(12), 3333);
        t.due("falls beyond 1999", x.falls(5000), 2010);
        t.due("await beyond 1999", x.await(), 2010);
        Due.law(x, "stars 499");
        t.due("beyond beyond 1999", x.beyond(), 2010);
        Due.law(x, "rate d = 2198");
        t.due("the last of 200 days", x.falls(5000), 2198);
        Due.law(x, "rate d = 2199");
        t.due("behind the last of 200 days", x.falls(5000), FluxWatch.NONE);
    }

    private static void falls() {
        FluxWatch x = new FluxWatch();
        x.coil(9);
        x.watch(0, 2, 1999);
        t.due("falls(-1)", x.falls(-1), FluxWatch.BAD);
        t.due("falls(10001)", x.falls(10001), FluxWatch.BAD);
        t.due("falls(0)", x.falls(0), FluxWatch.NONE);
        t.due("falls(10000)", x.falls(10000), 0);
        t.due("falls(5000)", x.falls(5000), 2);
        for (int day = 0; day < 200; day++) {
            int behind = x.since(day + 1);
            if (behind < 4000) {
                t.due("falls(4000)", x.falls(4000), day);
                t.due("of just that belief", x.falls(behind) > day ? 1 : 0, 1);
                t.due("of one more", x.falls(behind + 1), day);
                break;
            }
        }
        x.run(5);
        t.due("from the open day on", x.falls(10000), 5);
    }

    private static void await() {
        FluxWatch x = new FluxWatch();
        t.due("nothing is seen", x.await(), FluxWatch.NONE);
        Due.law(x, "rate 500");
        t.due("half at once", x.await(), 0);
        Due.law(x, "rate 499");
        t.due("a little less", x.await(), 1);
        Due.law(x, "rate (d = 199) * 500");
        t.due("on the last day", x.await(), 199);
        Due.law(x, "rate (d = 200) * 500");
        t.due("a day too late", x.await(), FluxWatch.NONE);
        x.run(1);
        t.due("a day later", x.await(), 200);
        Due.law(x, "rate 3");
        int p = 1000000;
        int day = x.count(9);
        while (true) {
            p = p * 997 / 1000;
            if (p <= 500000) {
                break;
            }
            day++;
        }
        t.due("it is cut each day", x.await(), day < x.count(9) + 200 ? day : FluxWatch.NONE);
        Due.law(x, "rate 4");
        t.due("some days", x.await(), 173);
        // 1000000 becomes 822000, 591018 and then just 500001
        Due.law(x, "rate (d=1)*178+(d=2)*281+(d=3)*154+(d>3)*9");
        t.due("one above half", x.await(), 4);
    }

    private static void beyond() {
        FluxWatch x = new FluxWatch();
        x.coil(3);
        x.watch(0, 4, 9);
        t.due("without a text", x.beyond(), FluxWatch.NONE);
        Due.law(x, "stars 2");
        t.due("the first day that is seen", x.beyond(), 4);
        Due.law(x, "stars 3");
        t.due("not above", x.beyond(), FluxWatch.NONE);
        Due.law(x, "stars 0-1");
        t.due("what stars gives is not held", x.beyond(), 0);
        Due.law(x, "stars 7-d");
        t.due("by the day", x.beyond(), 5);
        Due.law(x, "stars s-1");
        t.due("by what is seen", x.beyond(), 0);
        Due.law(x, "rate 9999");
        Due.law(x, "stars 999");
        t.due("r is held", x.beyond(), FluxWatch.NONE);
        Due.law(x, "rate d = 199");
        Due.law(x, "stars 0");
        t.due("the last of 200 days", x.beyond(), 199);
        Due.law(x, "rate d = 200");
        t.due("one too late", x.beyond(), FluxWatch.NONE);
    }

    private static void seed() {
        FluxWatch x = new FluxWatch();
        t.due("seed at first", x.seed(-2000000000), 1);
        t.due("z then", x.count(12), -2000000000);
        x.run(1);
        t.due("seed behind a day", x.seed(3), next(-2000000000));
    }
}
