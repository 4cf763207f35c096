/** Promises 40 to 47: sheets, slots. */
public final class SheetsTest {
    private static final Due t = new Due();

    public static void main(String[] args) {
        sheet();
        markShorts();
        markFloats();
        reads();
        readsLate();
        copy();
        copyRefused();
        lay();
        laidForGood();
        ask();
        item();
        rest();
        t.end();
    }

    private static int[] placesOf(FluxWatch x, int sheet, int many) {
        x.lay(4, 2, sheet);
        int[] places = new int[many];
        for (int i = 0; i < many; i++) {
            places[i] = x.item(4, i);
        }
        return places;
    }

    private static void rowIs(String of, FluxWatch x, int sheet, int... want) {
        int[] got = placesOf(x, sheet, want.length);
        for (int i = 0; i < want.length; i++) {
            t.due(of + ", place " + i, got[i], want[i]);
        }
        t.due(of + ", behind its end", x.item(4, want.length), FluxWatch.INDEX);
    }

    private static void sheet() {
        FluxWatch x = new FluxWatch();
        t.due("sheet -1", x.sheet(-1, 0, 0), FluxWatch.BAD);
        t.due("sheet 4", x.sheet(4, 0, 0), FluxWatch.BAD);
        t.due("sort -2", x.sheet(0, -2, 0), FluxWatch.BAD);
        t.due("sort 2", x.sheet(0, 2, 0), FluxWatch.BAD);
        t.due("25 places", x.sheet(0, 0, 25), FluxWatch.BAD);
        t.due("-1 places", x.sheet(0, 1, -1), FluxWatch.SIZE);
        t.due("sheet 4 of -1 places", x.sheet(4, 1, -1), FluxWatch.BAD);
        t.due("sort 2 of -1 places", x.sheet(3, 2, -1), FluxWatch.BAD);
        t.due("still missing", x.mark(0, 0, 0), FluxWatch.NOTHING);
        t.due("24 places", x.sheet(0, 0, 24), 24);
        t.due("no place", x.sheet(3, 1, 0), 0);
        t.due("not missing", x.mark(3, 0, 0), FluxWatch.INDEX);
        t.due("the last place", x.mark(0, 23, 7), 1);
        t.due("refused", x.sheet(0, 0, -5), FluxWatch.SIZE);
        t.due("it stays", placesOf(x, 0, 24)[23], 7);
        t.due("anew", x.sheet(0, 0, 24), 24);
        t.due("all 0", placesOf(x, 0, 24)[23], 0);
        t.due("missing, n 99", x.sheet(0, -1, 99), 0);
        t.due("missing, n -99", x.sheet(3, -1, -99), 0);
        t.due("0 is missing", x.mark(0, 0, 0), FluxWatch.NOTHING);
        t.due("3 is missing", x.mark(3, 0, 0), FluxWatch.NOTHING);
        x.sheet(1, 1, 2);
        rowIs("floats", x, 1, 0, 0);
    }

    private static void markShorts() {
        FluxWatch x = new FluxWatch();
        x.sheet(0, 0, 5);
        t.due("sheet -1", x.mark(-1, 0, 0), FluxWatch.BAD);
        t.due("sheet 4", x.mark(4, 0, 0), FluxWatch.BAD);
        t.due("missing", x.mark(1, 99, 0), FluxWatch.NOTHING);
        t.due("place -1", x.mark(0, -1, 0), FluxWatch.INDEX);
        t.due("place 5", x.mark(0, 5, FluxWatch.NONE), FluxWatch.INDEX);
        t.due("no number", x.mark(0, 0, FluxWatch.NONE), FluxWatch.KIND);
        x.mark(0, 0, 32767);
        x.mark(0, 1, 32768);
        x.mark(0, 2, -32769);
        x.mark(0, 3, 65536 + 5);
        t.due("the greatest int", x.mark(0, 4, Integer.MAX_VALUE), 1);
        rowIs("shorts", x, 0, 32767, -32768, 32767, 5, -1);
    }

    private static void markFloats() {
        FluxWatch x = new FluxWatch();
        x.sheet(0, 1, 4);
        t.due("100000", x.mark(0, 0, 100000), FluxWatch.BAD);
        t.due("-100000", x.mark(0, 0, -100000), FluxWatch.BAD);
        t.due("100000 at place 4", x.mark(0, 4, 100000), FluxWatch.INDEX);
        t.due("99999", x.mark(0, 0, 99999), 1);
        t.due("-99999", x.mark(0, 1, -99999), 1);
        t.due("no number", x.mark(0, 2, FluxWatch.NONE), 1);
        rowIs("floats", x, 0, 99999, -99999, FluxWatch.KIND, 0);
        t.due("a number again", x.mark(0, 2, 5), 1);
        rowIs("floats then", x, 0, 99999, -99999, 5, 0);
    }

    private static void reads() {
        FluxWatch x = new FluxWatch();
        x.coil(1);
        x.coil(1);
        x.creep(1, 2);
        x.run(5);
        x.step(0, 1, 4, 100);
        x.sheet(0, 1, 3);
        t.due("sheet -1", x.reads(-1, 1, 0), FluxWatch.BAD);
        t.due("sheet 4", x.reads(4, 1, 0), FluxWatch.BAD);
        t.due("coil 2", x.reads(0, 2, 0), FluxWatch.BAD);
        t.due("coil -1", x.reads(0, -1, 0), FluxWatch.BAD);
        t.due("day -1", x.reads(0, 1, -1), FluxWatch.BAD);
        t.due("day 2000", x.reads(0, 1, 2000), FluxWatch.BAD);
        t.due("missing", x.reads(1, 1, 0), FluxWatch.NOTHING);
        t.due("missing, and no coil", x.reads(1, 2, 0), FluxWatch.BAD);
        t.due("at once", x.reads(0, 1, 3), 0);
        x.mark(0, 0, 6);
        t.due("at place 1", x.reads(0, 1, 3), 1);
        x.mark(0, 1, 108);
        t.due("at place 2", x.reads(0, 1, 3), 2);
        x.mark(0, 2, 110);
        t.due("nowhere", x.reads(0, 1, 3), FluxWatch.NONE);
        t.due("from another day", x.reads(0, 1, 2), 0);
        x.mark(0, 0, FluxWatch.NONE);
        t.due("no number is passed over", x.reads(0, 1, 3), FluxWatch.NONE);
        x.mark(0, 2, 111);
        t.due("and what is behind it counts", x.reads(0, 1, 3), 2);
        t.due("the other coil", x.reads(0, 0, 3), 1);
        x.sheet(2, 0, 0);
        t.due("no place", x.reads(2, 0, 0), FluxWatch.NONE);
    }

    /** Places go on behind 1999; and a short is the number that it is. */
    private static void readsLate() {
        FluxWatch x = new FluxWatch();
        x.coil(1);
        x.creep(0, 9);
        x.sheet(0, 0, 3);
        x.mark(0, 0, 9 * 1999);
        x.mark(0, 1, 9 * 2000);
        t.due("behind 1999", x.reads(0, 0, 1999), 2);
        x.mark(0, 2, 9 * 2001);
        t.due("all of it", x.reads(0, 0, 1999), FluxWatch.NONE);
        x.creep(0, 0);
        for (int i = 0; i < 40; i++) {
            x.step(0, 0, 0, 999);
        }
        x.sheet(1, 0, 1);
        x.mark(1, 0, 39960);
        t.due("a line that no short can be", x.reads(1, 0, 0), 0);
        x.sheet(1, 1, 1);
        x.mark(1, 0, 39960);
        t.due("a float can", x.reads(1, 0, 0), FluxWatch.NONE);
    }

    private static void copy() {
        FluxWatch x = new FluxWatch();
        x.sheet(0, 0, 5);
        x.sheet(1, 0, 3);
        for (int i = 0; i < 5; i++) {
            x.mark(0, i, i + 1);
        }
        t.due("to another", x.copy(0, 2, 1, 1, 2), 2);
        rowIs("the other", x, 1, 0, 3, 4);
        rowIs("the first stays", x, 0, 1, 2, 3, 4, 5);
        t.due("onwards in itself", x.copy(0, 0, 0, 1, 4), 4);
        rowIs("onwards", x, 0, 1, 1, 2, 3, 4);
        t.due("backwards in itself", x.copy(0, 2, 0, 0, 3), 3);
        rowIs("backwards", x, 0, 2, 3, 4, 3, 4);
        t.due("none, at the ends", x.copy(0, 5, 1, 3, 0), 0);
        t.due("all", x.copy(1, 0, 0, 2, 3), 3);
        rowIs("all of it", x, 0, 2, 3, 0, 3, 4);
        x.sheet(2, 1, 2);
        x.sheet(3, 1, 2);
        x.mark(2, 0, FluxWatch.NONE);
        x.mark(2, 1, -9);
        t.due("floats", x.copy(2, 0, 3, 0, 2), 2);
        rowIs("no number comes along", x, 3, FluxWatch.KIND, -9);
    }

    private static void copyRefused() {
        FluxWatch x = new FluxWatch();
        x.sheet(0, 0, 5);
        x.sheet(1, 0, 3);
        x.sheet(2, 1, 3);
        t.due("from -1", x.copy(-1, 0, 0, 0, 0), FluxWatch.BAD);
        t.due("to 4", x.copy(0, 0, 4, 0, 0), FluxWatch.BAD);
        t.due("from 3, to 4", x.copy(3, 0, 4, 0, 0), FluxWatch.BAD);
        t.due("from a missing one", x.copy(3, 0, 0, 0, 0), FluxWatch.NOTHING);
        t.due("to a missing one", x.copy(0, 9, 3, 0, 0), FluxWatch.NOTHING);
        t.due("shorts to floats", x.copy(0, 9, 2, 0, 0), FluxWatch.KIND);
        t.due("floats to shorts", x.copy(2, 0, 0, 0, 1), FluxWatch.KIND);
        t.due("place -1", x.copy(0, -1, 1, 0, 1), FluxWatch.INDEX);
        t.due("at -1", x.copy(0, 0, 1, -1, 1), FluxWatch.INDEX);
        t.due("many -1", x.copy(0, 1, 1, 1, -1), FluxWatch.INDEX);
        t.due("beyond the first", x.copy(0, 4, 1, 0, 2), FluxWatch.INDEX);
        t.due("beyond the other", x.copy(0, 0, 1, 2, 2), FluxWatch.INDEX);
        t.due("place 6, none", x.copy(0, 6, 1, 0, 0), FluxWatch.INDEX);
        t.due("at 4, none", x.copy(0, 0, 1, 4, 0), FluxWatch.INDEX);
        t.due("sums that wrap", x.copy(0, Integer.MAX_VALUE, 1, 0, Integer.MAX_VALUE), FluxWatch.INDEX);
        t.due("many that wraps", x.copy(0, 1, 1, 1, Integer.MAX_VALUE), FluxWatch.INDEX);
        t.due("least", x.copy(0, 0, 1, 0, Integer.MIN_VALUE), FluxWatch.INDEX);
    }

    private static void lay() {
        FluxWatch x = new FluxWatch();
        x.coil(1);
        x.step(0, 0, 0, 5);
        x.sheet(1, 0, 2);
        t.due("slot -1", x.lay(-1, 0, 0), FluxWatch.BAD);
        t.due("slot 5", x.lay(5, 0, 0), FluxWatch.BAD);
        t.due("thing -1", x.lay(0, -1, 0), FluxWatch.BAD);
        t.due("thing 4", x.lay(0, 4, 0), FluxWatch.BAD);
        t.due("step -1", x.lay(0, 1, -1), FluxWatch.BAD);
        t.due("step 1", x.lay(0, 1, 1), FluxWatch.BAD);
        t.due("sheet -1", x.lay(0, 2, -1), FluxWatch.BAD);
        t.due("sheet 4", x.lay(0, 2, 4), FluxWatch.BAD);
        t.due("a missing sheet", x.lay(0, 2, 0), FluxWatch.NOTHING);
        t.due("still nothing", x.lay(0, 1, 0), 0);
        t.due("a step was in it", x.lay(0, 2, 1), 1);
        t.due("refused", x.lay(0, 2, 0), FluxWatch.NOTHING);
        t.due("a sheet was in it", x.lay(0, 3, Integer.MIN_VALUE), 2);
        t.due("refused again", x.lay(0, 1, 9), FluxWatch.BAD);
        t.due("a number was in it", x.lay(0, 0, 77), 3);
        t.due("nothing was in it", x.lay(0, 0, -77), 0);
        t.due("the last slot", x.lay(4, 3, 6), 0);
    }

    private static void laidForGood() {
        FluxWatch x = new FluxWatch();
        x.coil(1);
        x.step(1, 0, 0, 5);
        x.sheet(0, 0, 2);
        x.mark(0, 1, 8);
        x.lay(0, 1, 0);
        x.lay(1, 2, 0);
        x.lay(2, 2, 0);
        x.turns(0, 2);
        x.drop(0);
        x.mark(0, 1, 9);
        x.sheet(0, -1, 0);
        t.due("the step as it was", x.ask(0, 1), 85);
        t.due("the sheet as it was", x.item(1, 1), 8);
        x.sheet(0, 1, 1);
        x.lay(2, 2, 0);
        t.due("another row in another slot", x.item(1, 1), 8);
        t.due("its own row", x.item(2, 1), FluxWatch.INDEX);
    }

    private static void ask() {
        FluxWatch x = new FluxWatch();
        x.coil(1);
        int[] under = {0b000001, 0b000011, 0b000101, 0b001011, 0b010101, 0b100001};
        int[] worth = {81, 161, 40, 322, 39, 0};
        for (int kind = 0; kind < 6; kind++) {
            x.step(kind, 0, 0, -81);
            x.lay(0, 1, kind);
            for (int as = 0; as < 6; as++) {
                int want = (under[kind] >> as & 1) == 1 ? worth[kind] : FluxWatch.KIND;
                t.due("a " + kind + " asked as " + as, x.ask(0, as), want);
            }
        }
        x.lay(0, 1, 3);
        x.set(0, 10);
        t.due("by wanted as it is now", x.ask(0, 0), 182);
        t.due("slot -1", x.ask(-1, 0), FluxWatch.BAD);
        t.due("slot 5", x.ask(5, 0), FluxWatch.BAD);
        t.due("kind 6", x.ask(1, 6), FluxWatch.BAD);
        t.due("kind -1", x.ask(1, -1), FluxWatch.BAD);
        t.due("nothing", x.ask(1, 0), FluxWatch.NOTHING);
        x.lay(1, 3, 0);
        t.due("a number", x.ask(1, 0), FluxWatch.KIND);
        x.sheet(0, 0, 1);
        x.lay(1, 2, 0);
        t.due("a sheet", x.ask(1, 0), FluxWatch.KIND);
    }

    private static void item() {
        FluxWatch x = new FluxWatch();
        x.coil(1);
        x.step(0, 0, 0, 0);
        x.sheet(0, 1, 3);
        x.mark(0, 1, FluxWatch.NONE);
        x.mark(0, 2, -5);
        t.due("slot -1", x.item(-1, 0), FluxWatch.BAD);
        t.due("slot 5", x.item(5, 0), FluxWatch.BAD);
        t.due("nothing", x.item(0, 99), FluxWatch.NOTHING);
        x.lay(0, 1, 0);
        t.due("a step", x.item(0, 99), FluxWatch.KIND);
        x.lay(0, 3, 0);
        t.due("a number", x.item(0, 0), FluxWatch.KIND);
        x.lay(0, 2, 0);
        t.due("place -1", x.item(0, -1), FluxWatch.INDEX);
        t.due("place 3", x.item(0, 3), FluxWatch.INDEX);
        t.due("place 0", x.item(0, 0), 0);
        t.due("no number", x.item(0, 1), FluxWatch.KIND);
        t.due("place 2", x.item(0, 2), -5);
    }

    private static void rest() {
        FluxWatch x = new FluxWatch();
        x.coil(1);
        x.step(0, 0, 0, 0);
        t.due("slot -1", x.rest(-1, 0), FluxWatch.BAD);
        t.due("slot 5", x.rest(5, 0), FluxWatch.BAD);
        t.due("nothing", x.rest(0, 0), FluxWatch.NOTHING);
        x.lay(0, 1, 0);
        t.due("a step", x.rest(0, 0), FluxWatch.KIND);
        x.lay(0, 3, 17);
        t.due("by 0", x.rest(0, 0), FluxWatch.NO);
        t.due("by 5", x.rest(0, 5), 2);
        t.due("by -5", x.rest(0, -5), 2);
        x.lay(0, 3, -17);
        t.due("below 0, by 5", x.rest(0, 5), -2);
        x.lay(0, 3, Integer.MIN_VALUE);
        t.due("the least by -1", x.rest(0, -1), 0);
        t.due("the least by itself", x.rest(0, Integer.MIN_VALUE), 0);
    }
}
