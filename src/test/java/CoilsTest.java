/** Promises 1 to 9: a new object, coils, watches. */
public final class CoilsTest {
    private static final Due t = new Due();

    public static void main(String[] args) {
        newObject();
        coil();
        creep();
        pairs();
        watches();
        coilTold();
        line();
        t.end();
    }

    private static void newObject() {
        FluxWatch x = new FluxWatch();
        int[] counts = {0, 0, 0, 0, 0, 0, 0, 0, 5000, 0, 0, 0, 1};
        for (int i = 0; i < counts.length; i++) {
            t.due("new: count " + i, x.count(i), counts[i]);
        }
        t.due("new: wanted", x.set(0, 80), 80);
        t.due("new: pen", x.set(1, 4), 4);
        t.due("new: belief", x.set(2, 5000), 5000);
        t.due("new: world", x.set(3, 0), 0);
        for (int i = 0; i < 3; i++) {
            t.due("new: why " + i, x.why(i), FluxWatch.NONE);
        }
        for (int i = 0; i < 4; i++) {
            t.due("new: sheet " + i, x.mark(i, 0, 0), FluxWatch.NOTHING);
        }
        for (int i = 0; i < 5; i++) {
            t.due("new: slot " + i, x.rest(i, 1), FluxWatch.NOTHING);
        }
        t.due("new: no image", x.back(), FluxWatch.NO);
        t.due("new: no coil", x.coilTold(0, 0), FluxWatch.BAD);
    }

    private static void coil() {
        FluxWatch x = new FluxWatch();
        t.due("coil(0)", x.coil(0), FluxWatch.BAD);
        t.due("coil(10)", x.coil(10), FluxWatch.BAD);
        t.due("coil(1)", x.coil(1), 0);
        t.due("coil(9)", x.coil(9), 1);
        for (int i = 2; i < 6; i++) {
            t.due("coil " + i, x.coil(i), i);
        }
        t.due("a seventh coil", x.coil(3), FluxWatch.FULL);
        t.due("a seventh coil that is bad", x.coil(0), FluxWatch.BAD);
        t.due("six coils", x.count(0), 6);
        t.due("size of 0", x.coilTold(0, 0), 1);
        t.due("size of 1", x.coilTold(1, 0), 9);
    }

    private static void creep() {
        FluxWatch x = new FluxWatch();
        t.due("creep of no coil", x.creep(0, 1), FluxWatch.BAD);
        x.coil(1);
        t.due("creep at first", x.creep(0, -9), 0);
        t.due("creep then", x.creep(0, 9), -9);
        t.due("creep 10", x.creep(0, 10), FluxWatch.BAD);
        t.due("creep -10", x.creep(0, -10), FluxWatch.BAD);
        t.due("creep of -1", x.creep(-1, 0), FluxWatch.BAD);
        t.due("creep of 1", x.creep(1, 0), FluxWatch.BAD);
        t.due("creep stays", x.coilTold(0, 1), 9);
    }

    private static void pairs() {
        FluxWatch x = new FluxWatch();
        for (int i = 0; i < 4; i++) {
            x.coil(1);
        }
        t.due("pair with itself", x.pair(1, 1), FluxWatch.BAD);
        t.due("pair with none", x.pair(0, 4), FluxWatch.BAD);
        t.due("pair of none", x.pair(-1, 0), FluxWatch.BAD);
        t.due("pair(0, 2)", x.pair(0, 2), 1);
        t.due("pair(0, 1)", x.pair(0, 1), FluxWatch.NO);
        t.due("pair(1, 2)", x.pair(1, 2), FluxWatch.NO);
        t.due("pair(2, 0)", x.pair(2, 0), FluxWatch.NO);
        t.due("pair(0, 0) of a pair", x.pair(0, 0), FluxWatch.BAD);
        t.due("one pair", x.count(7), 1);
        t.due("pair(3, 1)", x.pair(3, 1), 1);
        t.due("two pairs", x.count(7), 2);
        t.due("mate of 0", x.coilTold(0, 2), 2);
        t.due("mate of 2", x.coilTold(2, 2), 0);
        t.due("part(4)", x.part(4), FluxWatch.BAD);
        t.due("part(-1)", x.part(-1), FluxWatch.BAD);
        t.due("part(2)", x.part(2), 0);
        t.due("part(2) again", x.part(2), FluxWatch.NO);
        t.due("part(0) again", x.part(0), FluxWatch.NO);
        t.due("mate of 0 then", x.coilTold(0, 2), FluxWatch.NONE);
        t.due("mate of 2 then", x.coilTold(2, 2), FluxWatch.NONE);
        t.due("mate of 1 stays", x.coilTold(1, 2), 3);
        t.due("one pair again", x.count(7), 1);
        t.due("part(3)", x.part(3), 1);
        t.due("no pair", x.count(7), 0);
    }

    private static void watches() {
        FluxWatch x = new FluxWatch();
        t.due("watch of no coil", x.watch(0, 0, 0), FluxWatch.BAD);
        x.coil(3);
        x.coil(5);
        t.due("watch below 0", x.watch(0, -1, 5), FluxWatch.BAD);
        t.due("watch beyond 1999", x.watch(0, 0, 2000), FluxWatch.BAD);
        t.due("watch backwards", x.watch(0, 5, 4), FluxWatch.BAD);
        t.due("watch of one day", x.watch(0, 5, 5), 0);
        t.due("watch of the last days", x.watch(1, 1990, 1999), 1);
        t.due("watch twice", x.watch(0, 4, 6), 2);
        t.due("watch of 1", x.watch(1, 6, 7), 3);
        int[] days = {3, 4, 5, 6, 7, 8, 1989, 1990, 1999};
        int[] seen = {0, 3, 3, 8, 5, 0, 0, 5, 5};
        for (int i = 0; i < days.length; i++) {
            t.due("seen(" + days[i] + ")", x.seen(days[i]), seen[i]);
        }
        t.due("seen(-1)", x.seen(-1), FluxWatch.BAD);
        t.due("seen(2000)", x.seen(2000), FluxWatch.BAD);
        for (int i = 4; i < 20; i++) {
            t.due("watch " + i, x.watch(0, 0, 0), i);
        }
        t.due("watch 20", x.watch(0, 0, 0), FluxWatch.FULL);
        t.due("watch 20, bad", x.watch(2, 0, 0), FluxWatch.BAD);
        t.due("twenty watches", x.count(1), 20);
        t.due("each coil counts once", x.seen(0), 3);
    }

    private static void coilTold() {
        FluxWatch x = new FluxWatch();
        x.coil(7);
        x.coil(2);
        x.watch(1, 1, 2);
        x.creep(1, -4);
        x.step(0, 1, 0, 5);
        x.step(4, 1, 0, 5);
        x.step(4, 0, 0, 5);
        t.due("told 0", x.coilTold(1, 0), 2);
        t.due("told 1", x.coilTold(1, 1), -4);
        t.due("told 2", x.coilTold(1, 2), FluxWatch.NONE);
        t.due("told 3", x.coilTold(1, 3), 0);
        t.due("told 4", x.coilTold(1, 4), 2);
        t.due("told 4 of 0", x.coilTold(0, 4), 1);
        t.due("told 5", x.coilTold(1, 5), FluxWatch.BAD);
        t.due("told -1", x.coilTold(1, -1), FluxWatch.BAD);
        t.due("told of 2", x.coilTold(2, 0), FluxWatch.BAD);
        t.due("told of -1", x.coilTold(-1, 0), FluxWatch.BAD);
        x.run(1);
        t.due("watched on day 1", x.coilTold(1, 3), 1);
        t.due("0 is not watched", x.coilTold(0, 3), 0);
        x.run(2);
        t.due("watched on day 3", x.coilTold(1, 3), 0);
    }

    private static void line() {
        FluxWatch x = new FluxWatch();
        t.due("line of no coil", x.line(0, 0), FluxWatch.BAD);
        x.coil(1);
        x.coil(1);
        x.creep(0, 3);
        x.run(10);
        x.step(0, 0, 4, 100);
        x.step(5, 0, 6, -30);
        x.step(1, 1, 2, 999);
        int[] days = {0, 3, 4, 5, 6, 10, 1999};
        int[] line = {0, 9, 112, 115, 88, 100, 6067};
        for (int i = 0; i < days.length; i++) {
            t.due("line(0, " + days[i] + ")", x.line(0, days[i]), line[i]);
        }
        t.due("line(1, 1)", x.line(1, 1), 0);
        t.due("line(1, 2)", x.line(1, 2), 999);
        t.due("line(0, -1)", x.line(0, -1), FluxWatch.BAD);
        t.due("line(0, 2000)", x.line(0, 2000), FluxWatch.BAD);
        t.due("line(2, 0)", x.line(2, 0), FluxWatch.BAD);
        t.due("line(-1, 0)", x.line(-1, 0), FluxWatch.BAD);
    }
}
