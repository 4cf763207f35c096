/** Promises 48 to 52: rows, images. */
public final class ImagesTest {
    private static final Due t = new Due();

    public static void main(String[] args) {
        tell();
        checkRefused();
        checkRows();
        checkPlaysTheImage();
        checkBeyond1999();
        keepAndBack();
        whatAnImageLeaves();
        backDoesNotShare();
        count();
        t.end();
    }

    private static void tell() {
        FluxWatch x = new FluxWatch();
        for (int i = 1; i <= 60; i++) {
            t.due("tell " + i, x.tell(-i), i);
        }
        t.due("tell 61", x.tell(0), FluxWatch.FULL);
        t.due("sixty wait", x.count(10), 60);
    }

    private static void checkRefused() {
        FluxWatch x = new FluxWatch();
        x.tell(1);
        t.due("no image", x.check(1), FluxWatch.NO);
        t.due("none wait", x.count(10), 0);
        x.tell(1);
        t.due("bad ahead of no", x.check(31), FluxWatch.BAD);
        t.due("none wait then", x.count(10), 0);
        x.keep();
        x.tell(1);
        t.due("check(0)", x.check(0), FluxWatch.BAD);
        t.due("none wait behind check(0)", x.count(10), 0);
        t.due("check(-1)", x.check(-1), FluxWatch.BAD);
    }

    /** A world in which something comes nearly each day. */
    private static FluxWatch busy() {
        FluxWatch x = new FluxWatch();
        x.coil(3);
        x.coil(4);
        x.watch(0, 0, 1999);
        x.watch(1, 5, 1999);
        x.set(3, 1);
        Due.law(x, "rate 300+d");
        Due.law(x, "knock 100*s-200");
        x.knock(80);
        x.knock(-33);
        x.seed(99);
        return x;
    }

    /** The days told, by the days themselves: two numbers a day. */
    private static int[] daysTold(FluxWatch x, int n) {
        int[] rows = new int[2 * n];
        for (int i = 0; i < n; i++) {
            rows[2 * i] = x.run(1);
            rows[2 * i + 1] = x.count(2);
        }
        return rows;
    }

    private static int checked(FluxWatch x, int[] rows, int many, int n) {
        for (int i = 0; i < many; i++) {
            x.tell(rows[i]);
        }
        return x.check(n);
    }

    private static void checkRows() {
        FluxWatch x = busy();
        x.run(2);
        x.keep();
        int[] rows = daysTold(x, 30);
        t.due("something came", rows[59] > 5 ? 1 : 0, 1);
        t.due("all thirty", checked(x, rows, 60, 30), 0);
        t.due("none wait", x.count(10), 0);
        t.due("again", checked(x, rows, 60, 30), 0);
        t.due("one day", checked(x, rows, 2, 1), 0);
        t.due("none told", checked(x, rows, 0, 5), 1);
        t.due("half a day", checked(x, rows, 1, 1), 2);
        t.due("one missing", checked(x, rows, 9, 5), 10);
        t.due("two missing", checked(x, rows, 8, 5), 9);
        t.due("one too many", checked(x, rows, 11, 5), 11);
        t.due("more too many", checked(x, rows, 60, 29), 59);
        for (int wrong = 0; wrong < 20; wrong++) {
            int[] other = rows.clone();
            other[wrong]++;
            t.due("wrong at " + wrong, checked(x, other, 20, 10), wrong + 1);
        }
        int[] two = rows.clone();
        two[4]++;
        two[7]++;
        t.due("the first of two", checked(x, two, 10, 5), 5);
        two = rows.clone();
        two[4]++;
        t.due("wrong and too many", checked(x, two, 12, 5), 5);
        t.due("wrong and missing", checked(x, two, 6, 5), 5);
        t.due("the day stays", x.count(9), 32);
    }

    private static void checkPlaysTheImage() {
        FluxWatch x = busy();
        x.keep();
        int[] rows = daysTold(x, 6);
        x.set(0, 5);
        x.clear();
        x.coil(9);
        x.watch(2, 0, 9);
        Due.law(x, "rate 0");
        int z = x.count(12);
        int belief = x.count(8);
        int steps = x.count(2);
        t.due("the image is played", checked(x, rows, 12, 6), 0);
        t.due("z stays", x.count(12), z);
        t.due("belief stays", x.count(8), belief);
        t.due("steps stay", x.count(2), steps);
        x.back();
        t.due("the image stays", daysTold(x, 6)[10], rows[10]);
    }

    private static void checkBeyond1999() {
        FluxWatch x = new FluxWatch();
        x.coil(1);
        x.watch(0, 0, 1999);
        for (int i = 0; i < 33; i++) {
            x.run(60);
        }
        x.run(19);
        x.set(2, 5000);
        Due.law(x, "rate (d = 2001) * 500");
        Due.law(x, "knock (d < 2000) * 999");
        x.seed(3);
        int steps = x.count(2);
        x.keep();
        t.due("no day has room", x.run(1), FluxWatch.FULL);
        // on 1999 a knock comes, and it is far below the height wanted or not: 1 .. 99
        int first = x.since(1);
        x.tell(first);
        t.due("told", x.tell(steps), 2);
        int answer = x.check(3);
        t.due("it is played", answer == 1 || answer == 2 ? 1 : 0, 1);
        x.set(2, 5000);
        Due.law(x, "knock 0");
        x.keep();
        int[] rows = {5000, steps, 5000, steps, 3333, steps, 3333, steps};
        t.due("the days beyond", checked(x, rows, 8, 4), 0);
    }

    private static int[] stepsOf(FluxWatch x) {
        int[] told = new int[4 * x.count(2)];
        for (int i = 0; i < told.length; i++) {
            told[i] = x.told(i / 4, i % 4);
        }
        return told;
    }

    private static void keepAndBack() {
        FluxWatch x = busy();
        t.due("back to none", x.back(), FluxWatch.NO);
        x.run(7);
        x.pair(0, 1);
        x.creep(1, 4);
        x.key(1, 2);
        x.offer(1, 2);
        x.offer(2, 3);
        x.set(0, 70);
        x.set(1, 6);
        x.step(3, 1, 5, 444);
        x.step(2, 0, 6, -555);
        t.due("keep", x.keep(), 7);
        int[] counts = new int[13];
        for (int i = 0; i < 13; i++) {
            counts[i] = x.count(i);
        }
        int[] steps = stepsOf(x);
        for (int again = 0; again < 2; again++) {
            x.run(9);
            x.coil(9);
            x.coil(9);
            x.watch(2, 0, 100);
            x.part(0);
            x.pair(2, 3);
            x.creep(1, -1);
            x.creep(2, 5);
            x.drop(0);
            x.drop(x.count(2) - 1);
            x.drop(1);
            x.turns(0, 5);
            x.step(0, 0, 0, 999);
            x.key(0, 9);
            x.clear();
            x.offer(9, 9);
            x.knock(7);
            x.set(0, 60);
            x.set(1, 9);
            x.set(2, 123);
            x.set(3, 0);
            Due.law(x, "stars 7");
            Due.law(x, "rate 0");
            t.due("back", x.back(), 7);
            for (int i = 0; i < 13; i++) {
                t.due("count " + i + " as it was", x.count(i), counts[i]);
            }
            int[] then = stepsOf(x);
            for (int i = 0; i < steps.length; i++) {
                t.due("step " + i / 4 + ", " + i % 4, then[i], steps[i]);
            }
            t.due("mate", x.coilTold(0, 2), 1);
            t.due("creep", x.coilTold(1, 1), 4);
            t.due("keys", x.keys(9), 0);
            t.due("best", x.best(9999, 1), 3);
            t.due("its price", x.best(9999, 2), 5);
            t.due("r", x.news(7, 0), 307);
            t.due("why stars", x.why(2), FluxWatch.NONE);
            t.due("why rate", x.why(0), 0);
            t.due("seen", x.seen(50), 7);
            t.due("wanted", x.set(0, 70), 70);
            t.due("pen", x.set(1, 6), 6);
            t.due("world", x.set(3, 1), 1);
        }
        x.coil(9);
        t.due("a new coil has no mate", x.coilTold(2, 2), FluxWatch.NONE);
        t.due("and no creep", x.coilTold(2, 1), 0);
        x.run(1);
        t.due("keep again", x.keep(), 8);
        x.run(1);
        t.due("back to the new one", x.back(), 8);
    }

    private static void whatAnImageLeaves() {
        FluxWatch x = busy();
        x.sheet(0, 0, 2);
        x.lay(0, 3, 5);
        x.tell(1);
        x.feed(0, 0, 0);
        x.keep();
        x.sheet(0, 0, 3);
        x.mark(0, 2, 6);
        x.lay(0, 2, 0);
        x.lay(1, 3, 9);
        x.tell(2);
        x.feed(0, 0, 0);
        x.back();
        t.due("the sheet stays", x.mark(0, 2, 6), 1);
        t.due("the slot stays", x.item(0, 2), 6);
        t.due("the other slot stays", x.rest(1, 5), 4);
        t.due("numbers go on waiting", x.count(10), 2);
        t.due("the tape stays", x.count(11), 24);
    }

    private static void backDoesNotShare() {
        FluxWatch x = busy();
        x.step(0, 0, 0, 1);
        x.keep();
        x.back();
        x.turns(0, 3);
        x.drop(0);
        x.knock(9);
        x.back();
        t.due("the step", x.told(0, 0), 0);
        t.due("the knocks", x.count(4), 2);
    }

    private static void count() {
        FluxWatch x = new FluxWatch();
        t.due("count(-1)", x.count(-1), FluxWatch.BAD);
        t.due("count(13)", x.count(13), FluxWatch.BAD);
        x.coil(1);
        x.coil(1);
        x.coil(1);
        x.pair(0, 2);
        x.watch(0, 0, 0);
        x.watch(0, 0, 0);
        x.step(0, 0, 0, 0);
        Due.law(x, "rate 1");
        Due.law(x, "rate 1");
        Due.law(x, "rate 1");
        Due.law(x, "rate 1");
        for (int i = 0; i < 5; i++) {
            x.knock(0);
        }
        for (int i = 0; i < 6; i++) {
            x.key(0, 0);
        }
        for (int i = 0; i < 7; i++) {
            x.offer(1, 1);
        }
        x.tell(0);
        x.tell(0);
        x.feed(0, 0, 0);
        x.trim(9);
        x.run(3);
        x.set(2, 88);
        x.seed(-7);
        int[] counts = {3, 2, 1, 4, 5, 6, 7, 1, 88, 3, 2, 9, -7};
        for (int i = 0; i < counts.length; i++) {
            t.due("count(" + i + ")", x.count(i), counts[i]);
        }
    }
}
