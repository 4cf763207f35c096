/** Promises 10 to 16: steps. */
public final class StepsTest {
    private static final Due t = new Due();

    public static void main(String[] args) {
        step();
        fitsByHeight();
        fitsByKind();
        fitsAtTheEdge();
        worth();
        told();
        as();
        turns();
        drop();
        set();
        t.end();
    }

    private static FluxWatch withCoils(int many) {
        FluxWatch x = new FluxWatch();
        for (int i = 0; i < many; i++) {
            x.coil(1 + i);
        }
        return x;
    }

    private static void step() {
        FluxWatch x = withCoils(1);
        t.due("kind -1", x.step(-1, 0, 0, 0), FluxWatch.BAD);
        t.due("kind 6", x.step(6, 0, 0, 0), FluxWatch.BAD);
        t.due("coil -1", x.step(0, -1, 0, 0), FluxWatch.BAD);
        t.due("coil 1", x.step(0, 1, 0, 0), FluxWatch.BAD);
        t.due("day -1", x.step(0, 0, -1, 0), FluxWatch.BAD);
        t.due("a day to come", x.step(0, 0, 1, 0), FluxWatch.BAD);
        t.due("height 1000", x.step(0, 0, 0, 1000), FluxWatch.BAD);
        t.due("height -1000", x.step(0, 0, 0, -1000), FluxWatch.BAD);
        t.due("none came", x.count(2), 0);
        t.due("height 999", x.step(5, 0, 0, 999), 0);
        t.due("height -999", x.step(0, 0, 0, -999), 1);
        x.run(3);
        t.due("the open day", x.step(0, 0, 3, 0), 2);
        t.due("beyond the open day", x.step(0, 0, 4, 0), FluxWatch.BAD);
        for (int i = 3; i < 40; i++) {
            t.due("step " + i, x.step(0, 0, 0, i), i);
        }
        t.due("step 40", x.step(0, 0, 0, 0), FluxWatch.FULL);
        t.due("step 40, bad", x.step(0, 0, 0, 1000), FluxWatch.BAD);
        t.due("forty steps", x.count(2), 40);
    }

    private static void fitsByHeight() {
        FluxWatch x = withCoils(1);
        int[] heights = {75, 76, 80, 84, 85, -75, -76, -84, -85, 0};
        int[] step = {0, 1, 1, 1, 0, 0, 1, 1, 0, 0};
        int[] just = {0, 1, 1, 1, 0, 0, 0, 0, 0, 0};
        for (int i = 0; i < heights.length; i++) {
            x.step(0, 0, 0, heights[i]);
            x.step(1, 0, 0, heights[i]);
            t.due("a step of " + heights[i], x.told(2 * i, 4), step[i]);
            t.due("just of " + heights[i], x.told(2 * i + 1, 4), just[i]);
        }
        t.due("fit", x.fit(), 8);
        x.set(0, 3);
        x.set(1, 5);
        t.due("a height of 0 fits where the pen is wider than wanted", x.told(18, 4), 1);
        t.due("but is not just", x.told(19, 4), 0);
        t.due("fit then", x.fit(), 1);
    }

    private static void fitsByKind() {
        FluxWatch x = withCoils(4);
        x.run(2);
        x.watch(0, 1, 1);
        x.step(2, 0, 1, -80);
        x.step(4, 0, 1, 80);
        x.step(5, 0, 1, 80);
        x.step(5, 0, 0, 80);
        x.step(5, 1, 1, -80);
        x.step(5, 1, 1, 90);
        int[] fits = {1, 0, 0, 1, 1, 0};
        for (int i = 0; i < fits.length; i++) {
            t.due("kind of " + i, x.told(i, 4), fits[i]);
        }
        t.due("fit", x.fit(), 3);
        x.step(3, 2, 1, 80);
        t.due("paired alone", x.told(6, 4), 0);
        x.step(0, 3, 1, 1);
        t.due("paired with no pair", x.told(6, 4), 0);
        x.pair(2, 3);
        t.due("paired", x.told(6, 4), 1);
        x.turns(7, 4);
        t.due("paired with a step of any kind", x.told(6, 4), 1);
        x.drop(7);
        t.due("paired no more", x.told(6, 4), 0);
        x.step(0, 3, 2, 1);
        t.due("paired with another day", x.told(6, 4), 0);
        x.step(0, 2, 1, 1);
        t.due("paired with its own coil", x.told(6, 4), 0);
        x.step(3, 2, 2, -80);
        t.due("paired downwards", x.told(9, 4), 0);
        x.step(3, 3, 1, 99);
        t.due("paired again", x.told(6, 4), 1);
        t.due("paired of another height", x.told(10, 4), 0);
        x.part(3);
        t.due("parted", x.told(6, 4), 0);
    }

    private static void fitsAtTheEdge() {
        FluxWatch x = withCoils(2);
        x.set(0, 1);
        x.pair(0, 1);
        x.step(1, 0, 0, 1);
        x.step(3, 1, 0, 1);
        x.step(3, 1, 0, 0);
        x.step(3, 1, 0, -1);
        t.due("just of 1", x.told(0, 4), 1);
        t.due("paired of 1, with the first step", x.told(1, 4), 1);
        t.due("paired of 0", x.told(2, 4), 0);
        t.due("paired of -1", x.told(3, 4), 0);
    }

    private static void worth() {
        FluxWatch x = withCoils(1);
        int[] of81 = {81, 161, 40, 322, 39, 0};
        int[] of0 = {0, 80, 0, 160, -1, 0};
        for (int kind = 0; kind < 6; kind++) {
            x.step(kind, 0, 0, 81);
            x.step(kind, 0, 0, -81);
            x.step(kind, 0, 0, 0);
            t.due("worth of 81, " + kind, x.told(3 * kind, 5), of81[kind]);
            t.due("worth of -81, " + kind, x.told(3 * kind + 1, 5), of81[kind]);
            t.due("worth of 0, " + kind, x.told(3 * kind + 2, 5), of0[kind]);
        }
        x.set(0, 999);
        t.due("worth by another wanted", x.told(9, 5), 2160);
    }

    private static void told() {
        FluxWatch x = withCoils(2);
        x.run(3);
        x.step(2, 1, 3, -7);
        int[] told = {2, 1, 3, -7, 0, 3};
        for (int i = 0; i < told.length; i++) {
            t.due("told " + i, x.told(0, i), told[i]);
        }
        t.due("told 6", x.told(0, 6), FluxWatch.BAD);
        t.due("told -1", x.told(0, -1), FluxWatch.BAD);
        t.due("told of 1", x.told(1, 0), FluxWatch.BAD);
        t.due("told of -1", x.told(-1, 0), FluxWatch.BAD);
    }

    private static void as() {
        FluxWatch x = withCoils(1);
        int[] under = {0b000001, 0b000011, 0b000101, 0b001011, 0b010101, 0b100001};
        for (int kind = 0; kind < 6; kind++) {
            x.step(kind, 0, 0, kind - 50);
            for (int as = 0; as < 6; as++) {
                int want = (under[kind] >> as & 1) == 1 ? kind - 50 : FluxWatch.KIND;
                t.due("as(" + kind + ", " + as + ")", x.as(kind, as), want);
            }
        }
        t.due("as of 6", x.as(6, 0), FluxWatch.BAD);
        t.due("as of -1", x.as(-1, 0), FluxWatch.BAD);
        t.due("as 6", x.as(0, 6), FluxWatch.BAD);
        t.due("as -1", x.as(0, -1), FluxWatch.BAD);
    }

    private static void turns() {
        FluxWatch x = withCoils(1);
        x.step(2, 0, 0, -80);
        t.due("turns to 1", x.turns(0, 1), 2);
        t.due("kind then", x.told(0, 0), 1);
        t.due("fits as that kind", x.told(0, 4), 0);
        t.due("height stays", x.told(0, 3), -80);
        t.due("turns to 6", x.turns(0, 6), FluxWatch.BAD);
        t.due("turns to -1", x.turns(0, -1), FluxWatch.BAD);
        t.due("turns of 1", x.turns(1, 0), FluxWatch.BAD);
        t.due("turns of -1", x.turns(-1, 0), FluxWatch.BAD);
        t.due("turns to 5", x.turns(0, 5), 1);
        t.due("unseen then", x.told(0, 4), 1);
    }

    private static void drop() {
        FluxWatch x = withCoils(2);
        x.run(4);
        for (int i = 0; i < 5; i++) {
            x.step(i, i % 2, i, 10 * i);
        }
        t.due("drop(5)", x.drop(5), FluxWatch.BAD);
        t.due("drop(-1)", x.drop(-1), FluxWatch.BAD);
        t.due("drop(1)", x.drop(1), 4);
        int[] kept = {0, 2, 3, 4};
        for (int i = 0; i < kept.length; i++) {
            t.due("kind of " + i, x.told(i, 0), kept[i]);
            t.due("coil of " + i, x.told(i, 1), kept[i] % 2);
            t.due("day of " + i, x.told(i, 2), kept[i]);
            t.due("height of " + i, x.told(i, 3), 10 * kept[i]);
        }
        t.due("drop the last", x.drop(3), 3);
        t.due("it is gone", x.told(3, 0), FluxWatch.BAD);
        t.due("drop the first", x.drop(0), 2);
        t.due("the second is first", x.told(0, 3), 20);
        t.due("one more behind", x.step(0, 0, 0, 77), 2);
        t.due("the line without them", x.line(0, 4), 97);
        while (x.count(2) < 40) {
            x.step(0, 1, 0, x.count(2));
        }
        t.due("drop the last of forty", x.drop(39), 39);
        x.step(0, 1, 0, 500);
        t.due("drop one amid forty", x.drop(20), 39);
        t.due("the last one then", x.told(38, 3), 500);
        t.due("the one amid them", x.told(20, 3), 21);
    }

    private static void set() {
        FluxWatch x = new FluxWatch();
        int[] first = {80, 4, 5000, 0};
        int[] least = {1, 0, 0, 0};
        int[] most = {999, 99, 10000, 1};
        for (int i = 0; i < 4; i++) {
            t.due("set to least " + i, x.set(i, least[i]), first[i]);
            t.due("set below " + i, x.set(i, least[i] - 1), FluxWatch.BAD);
            t.due("set to most " + i, x.set(i, most[i]), least[i]);
            t.due("set above " + i, x.set(i, most[i] + 1), FluxWatch.BAD);
            t.due("it stays " + i, x.set(i, most[i]), most[i]);
        }
        t.due("set 4", x.set(4, 1), FluxWatch.BAD);
        t.due("set -1", x.set(-1, 1), FluxWatch.BAD);
        t.due("belief", x.count(8), 10000);
    }
}
