/** The edges of promises 17 to 23, sentence by sentence. */
public final class DaysEdgesTest {
    private static final Edges t = new Edges();
    /** To the last day, in 34 calls; behind it BELIEF is 5000 again. */
    private static final String LAST_DAY = "33 * run(60); run(19); set(2, 5000); ";

    public static void main(String[] args) {
        run();
        belief();
        beliefStays();
        drawOfTheWorld();
        stepOfTheWorld();
        drawOfAKnock();
        stepOfAKnock();
        roomForSteps();
        order();
        news();
        newsHeld();
        since();
        falls();
        await();
        beyond();
        seed();
        t.end(17, 23);
    }

    private static void run() {
        t.edge(17, "n is 1 at the least", "run(0) BAD; run(-1) BAD; run(MIN) BAD; count(9) 0; run(1) 5002; count(9) 1");
        t.edge(17, "n is 60 at the most", "run(61) BAD; run(MAX) BAD; count(9) 0; run(60) 5120; count(9) 60");
        t.edge(17, "FULL: DAY would be above 1999", "33 * run(60); count(9) 1980; run(20) FULL; run(60) FULL; count(9) 1980; run(19); count(9) 1999; run(1) FULL; run(60) FULL; count(9) 1999");
        t.edge(17, "FULL: sixty days at once", "32 * run(60); run(20); count(9) 1940; run(60) FULL; count(9) 1940; run(59); count(9) 1999");
        t.edge(17, "BAD stands ahead of FULL", "33 * run(60); run(19); run(0) BAD; run(61) BAD; run(MAX) BAD; run(1) FULL");
        t.edge(17, "what is refused draws nothing", "run(0) BAD; run(61) BAD; count(12) 1; 33 * run(60); run(19); seed(5); run(1) FULL; count(12) 5");
    }

    private static void belief() {
        t.edge(17, "BELIEF by r and q, nothing came", "coil(5); watch(0, 0, 9); run(1) 4989; run(1) 4978");
        t.edge(17, "BELIEF by r and q, a STEP that FITS", "coil(5); watch(0, 0, 9); step(0, 0, 0, 84); run(1) 8333");
        t.edge(17, "a STEP that does not FIT is nothing", "coil(5); watch(0, 0, 9); step(0, 0, 0, 85); step(1, 0, 0, -80); step(4, 0, 0, 80); run(1) 4989");
        t.edge(17, "a STEP of another DAY is nothing", "coil(5); watch(0, 1, 9); run(1) 5002; step(0, 0, 0, 80); set(2, 5000); run(1) 4989");
        t.edge(17, "BELIEF is cut", "'rate 999' 0; 'knock 0' 1; run(1) 9");
        t.edge(17, "BELIEF 0 stays 0", "set(2, 0); coil(9); watch(0, 0, 9); run(1) 0; step(0, 0, 1, 80); run(1) 0");
        t.edge(17, "BELIEF 10000 stays 10000", "set(2, 10000); coil(9); watch(0, 0, 9); run(1) 10000; step(0, 0, 1, 80); run(1) 10000");
        t.edge(17, "BELIEF becomes 0", "coil(9); step(0, 0, 0, 80); run(1) 0");
        t.edge(17, "BELIEF becomes 10000", "coil(9); watch(0, 0, 0); 'knock 0' 0; step(0, 0, 0, 80); run(1) 10000");
        t.edge(17, "the least BELIEF", "set(2, 1); 'rate 999' 0; 'knock 0' 1; run(1) 0");
        t.edge(17, "the greatest that is not sure", "set(2, 9999); run(1) 9999");
    }

    private static void beliefStays() {
        t.edge(17, "it stays, if x and y are 0: r and q are", "coil(9); 'knock 0' 0; step(0, 0, 0, 80); run(1) 5000");
        t.edge(17, "it stays, if x and y are 0: BELIEF is 10000, r is 0", "coil(9); step(0, 0, 0, 80); set(2, 10000); run(1) 10000");
        t.edge(17, "it stays, if x and y are 0: BELIEF is 0, q is", "coil(9); watch(0, 0, 0); 'knock 0' 0; step(0, 0, 0, 80); set(2, 0); run(1) 0");
        t.edge(17, "x alone is 0", "coil(9); step(0, 0, 0, 80); set(2, 9999); run(1) 0");
        t.edge(17, "y alone is 0", "coil(9); watch(0, 0, 0); 'knock 0' 0; step(0, 0, 0, 80); set(2, 1); run(1) 10000");
    }

    /** (a): whether there is a draw, and whether a step comes of it. */
    private static void drawOfTheWorld() {
        int rest7 = Draws.seed(1000, 7, 1000, 500);
        String watched = "coil(1); watch(0, 0, 9); set(3, 1); 'knock 0' 0; seed(" + rest7 + "); ";
        t.edge(17, "(a) its rest is below r", watched + "'rate 8' 1; run(1); count(2) 1; told(0, 0) 1");
        t.edge(17, "(a) its rest is r", watched + "'rate 7' 1; run(1); count(2) 0");
        int rest0 = Draws.seed(1000, 0, 1000, 500);
        t.edge(17, "(a) the least rest, r is 1", "coil(1); watch(0, 0, 9); set(3, 1); 'knock 0' 0; 'rate 1' 1; seed(" + rest0 + "); run(1); count(2) 1");
        t.edge(17, "(a) the least rest, r is 0", "coil(1); watch(0, 0, 9); set(3, 1); 'knock 0' 0; 'rate 0' 1; seed(" + rest0 + "); run(1); count(2) 0");
        int rest999 = Draws.seed(1000, 999, 1000, 500);
        t.edge(17, "(a) the greatest rest, r is 999", "coil(1); watch(0, 0, 9); set(3, 1); 'knock 0' 0; 'rate 9999' 1; seed(" + rest999 + "); run(1); count(2) 0");
        int rest998 = Draws.seed(1000, 998, 1000, 500);
        t.edge(17, "(a) a rest of 998, r is 999", "coil(1); watch(0, 0, 9); set(3, 1); 'knock 0' 0; 'rate 9999' 1; seed(" + rest998 + "); run(1); count(2) 1");
        t.edge(17, "(a) THE WORLD is 1: two draws a DAY, 0: one", """
            set(3, 1); seed(5); run(1); count(12) %d; set(3, 0); run(1); count(12) %d
            """.formatted(Draws.behind(5, 2), Draws.behind(5, 3)));
        t.edge(17, "(a) THE WORLD is 0: no STEP", "coil(1); watch(0, 0, 9); 'rate 9999' 0; 'knock 0' 1; run(9); count(2) 0");
        t.edge(17, "(a) no COIL is WATCHED: a draw, no STEP", "coil(1); watch(0, 1, 1); set(3, 1); 'rate 9999' 0; 'knock 0' 1; seed(5); run(1); count(2) 0; count(12) " + Draws.behind(5, 2));
        t.edge(17, "(a) no COIL at all", "set(3, 1); 'rate 9999' 0; 'knock 9999' 1; seed(5); run(1); count(2) 0; count(12) " + Draws.behind(5, 2));
    }

    private static void stepOfTheWorld() {
        int rests = Draws.seedBelow999(8);
        String world = "set(3, 1); 'rate 9999' 0; 'knock 0' 1; seed(" + rests + "); ";
        t.edge(17, "(a) JUST, of the least COIL that is WATCHED, on that DAY", "4 * coil(1); watch(3, 0, 9); watch(2, 0, 9); watch(0, 1, 1); " + world
            + "run(1); told(0, 0) 1; told(0, 1) 2; told(0, 2) 0; told(0, 3) 80; run(1); told(1, 1) 0; told(1, 2) 1");
        t.edge(17, "(a) the last COIL alone", "6 * coil(1); watch(5, 0, 0); " + world + "run(1); told(0, 1) 5");
        t.edge(17, "(a) its HEIGHT WANTED, the least", "coil(1); watch(0, 0, 0); set(0, 1); " + world + "run(1); told(0, 3) 1");
        t.edge(17, "(a) its HEIGHT WANTED, the greatest", "coil(1); watch(0, 0, 0); set(0, 999); " + world + "run(1); told(0, 3) 999");
        t.edge(17, "(a) on the first DAY and the last of a WATCH", "coil(1); watch(0, 1, 2); " + world + "run(4); count(2) 2; told(0, 2) 1; told(1, 2) 2");
        t.edge(17, "(a) day 1998 is the last that goes by", "coil(1); watch(0, 1998, 1999); 33 * run(60); run(18); " + world + "run(1); count(2) 1; told(0, 2) 1998; run(1) FULL");
    }

    /** (b): whether a step comes of a draw. */
    private static void drawOfAKnock() {
        int rest7 = Draws.seed(1000, 7);
        t.edge(17, "(b) its rest is below q", "coil(1); watch(0, 0, 9); 'knock 8' 0; seed(" + rest7 + "); run(1); count(2) 1; told(0, 0) 2; count(12) " + Draws.behind(rest7, 3));
        t.edge(17, "(b) its rest is q", "coil(1); watch(0, 0, 9); 'knock 7' 0; seed(" + rest7 + "); run(1); count(2) 0; count(12) " + Draws.behind(rest7, 1));
        int rest0 = Draws.seed(1000, 0);
        t.edge(17, "(b) without a TEXT q is 1: a rest of 0", "coil(1); watch(0, 0, 9); seed(" + rest0 + "); run(1); count(2) 1");
        int rest1 = Draws.seed(1000, 1);
        t.edge(17, "(b) without a TEXT q is 1: a rest of 1", "coil(1); watch(0, 0, 9); seed(" + rest1 + "); run(1); count(2) 0");
        t.edge(17, "(b) the least rest, q is 0", "coil(1); watch(0, 0, 9); 'knock 0' 0; seed(" + rest0 + "); run(1); count(2) 0");
        int rest999 = Draws.seed(1000, 999);
        t.edge(17, "(b) the greatest rest, q is 999", "coil(1); watch(0, 0, 9); 'knock 9999' 0; seed(" + rest999 + "); run(1); count(2) 0");
        int rest998 = Draws.seed(1000, 998);
        t.edge(17, "(b) a rest of 998, q is 999", "coil(1); watch(0, 0, 9); 'knock 9999' 0; seed(" + rest998 + "); run(1); count(2) 1");
        t.edge(17, "(b) no COIL is WATCHED: one draw, no STEP", "coil(1); watch(0, 1, 1); 'knock 9999' 0; seed(" + rest0 + "); run(1); count(2) 0; count(12) " + Draws.behind(rest0, 1));
        t.edge(17, "(b) comes in THE WORLD 0 and 1", "coil(1); watch(0, 0, 9); 'knock 9999' 0; 'rate 0' 1; seed(5); run(1); count(2) 1; set(3, 1); seed(5); run(1); count(2) 2; told(1, 0) 2");
    }

    /** (b): of which coil, of which height. */
    private static void stepOfAKnock() {
        String six = "6 * coil(1); watch(5, 0, 0); watch(3, 0, 0); watch(1, 0, 0); watch(1, 0, 0); 'knock 9999' 0; ";
        for (int rest = 0; rest < 3; rest++) {
            t.edge(17, "(b) of those WATCHED, by numbers, rest " + rest, six + "seed(" + Draws.seed(1000, 5, 3, rest) + "); run(1); told(0, 1) " + (1 + 2 * rest));
        }
        int one = Draws.seed(1000, 5, 0, 0, 99, 12);
        t.edge(17, "(b) one COIL is WATCHED: a draw all the same", "coil(1); watch(0, 0, 0); 'knock 9999' 0; seed(" + one + "); run(1); told(0, 1) 0; told(0, 3) 13; count(12) " + Draws.behind(one, 3));
        String plain = "coil(1); watch(0, 0, 0); 'knock 9999' 0; ";
        t.edge(17, "(b) without KNOCKS: 1, and a rest of 0", plain + "seed(" + Draws.seed(1000, 5, 0, 0, 99, 0) + "); run(1); told(0, 3) 1");
        t.edge(17, "(b) without KNOCKS: 1, and a rest of 98", plain + "seed(" + Draws.seed(1000, 5, 0, 0, 99, 98) + "); run(1); told(0, 3) 99");
        String sixty = plain + "knock(-999); 58 * knock(5); knock(999); ";
        t.edge(17, "(b) of sixty KNOCKS the first", sixty + "seed(" + Draws.seed(1000, 5, 0, 0, 60, 0) + "); run(1); told(0, 3) -999");
        t.edge(17, "(b) of sixty KNOCKS the last", sixty + "seed(" + Draws.seed(1000, 5, 0, 0, 60, 59) + "); run(1); told(0, 3) 999");
        t.edge(17, "(b) of sixty KNOCKS the second", sixty + "seed(" + Draws.seed(1000, 5, 0, 0, 60, 1) + "); run(1); told(0, 3) 5");
        t.edge(17, "(b) of one KNOCK it, with a draw all the same", plain + "knock(-77); seed(" + one + "); run(1); told(0, 3) -77; count(12) " + Draws.behind(one, 3));
        t.edge(17, "a draw is z >>> 8, z below 0 too", plain + "seed(" + below0() + "); run(1); told(0, 3) " + (1 + (Draws.behind(below0(), 3) >>> 8) % 99));
    }

    /** A seed behind which z is below 0 at all of three draws, the first of them having a rest below 999. */
    private static int below0() {
        int seed = 1;
        while (Draws.behind(seed, 1) >= 0 || Draws.behind(seed, 2) >= 0 || Draws.behind(seed, 3) >= 0 || (Draws.next(seed) >>> 8) % 1000 >= 999) {
            seed++;
        }
        return seed;
    }

    private static void roomForSteps() {
        int rests = Draws.seed(1000, 3, 1000, 4);
        String both = "coil(1); watch(0, 0, 9); set(3, 1); 'rate 9999' 0; 'knock 9999' 1; seed(" + rests + "); ";
        t.edge(17, "there is room for both", both + "38 * step(4, 0, 0, 1); run(1); count(2) 40; told(38, 0) 1; told(39, 0) 2; count(12) " + Draws.behind(rests, 4));
        t.edge(17, "there is room for one: (a) comes, (b) draws once", both + "39 * step(4, 0, 0, 1); run(1); count(2) 40; told(39, 0) 1; count(12) " + Draws.behind(rests, 2));
        t.edge(17, "there is no room: two draws, no STEP", both + "40 * step(4, 0, 0, 1); run(1); count(2) 40; told(39, 0) 4; count(12) " + Draws.behind(rests, 2));
    }

    private static void order() {
        int rests = Draws.seed(1000, 3, 1000, 999);
        t.edge(17, "(c) NEWS of the DAY knows the STEP of (a)", "coil(5); watch(0, 0, 0); set(3, 1); 'rate 5' 0; seed(" + rests + "); run(1) 8333");
        int knocked = Draws.seed(1000, 0);
        t.edge(17, "(c) NEWS of the DAY knows the STEP of (b)", "coil(5); watch(0, 0, 0); knock(-80); seed(" + knocked + "); run(1) 8333");
        t.edge(17, "(c) a KNOCK that does not FIT is nothing", "coil(5); watch(0, 0, 0); knock(-85); seed(" + knocked + "); run(1) 4989; count(2) 1");
        t.edge(17, "(d) the next DAY, n times", "run(1); count(9) 1; run(2); count(9) 3");
        t.edge(17, "n DAYS are n times one", "coil(5); watch(0, 0, 2); seed(9); keep(); run(7); back(); run(1); run(1); run(1); run(1); run(1); run(1); run(1) "
            + sevenDays() + "; count(12) " + Draws.behind(9, 7));
    }

    private static int sevenDays() {
        FluxWatch x = new FluxWatch();
        x.coil(5);
        x.watch(0, 0, 2);
        x.seed(9);
        return x.run(7);
    }

    private static void news() {
        t.edge(18, "BAD: a DAY is 0 .. 1999", "coil(7); watch(0, 0, 1999); news(-1, 0) BAD; news(0, 0) 7; news(1999, 0) 7; news(2000, 0) BAD; news(MIN, 0) BAD; news(MAX, 0) BAD");
        t.edge(18, "BAD: what is 0 .. 2", "coil(7); watch(0, 0, 9); news(0, -1) BAD; news(0, 0) 7; news(0, 1) 1; news(0, 2) 0; news(0, 3) BAD; news(0, MIN) BAD; news(0, MAX) BAD");
        t.edge(18, "r without a TEXT: SEEN", "news(5, 0) 0; 6 * coil(9); watch(0, 5, 5); watch(1, 5, 5); watch(2, 5, 5); watch(3, 5, 5); watch(4, 5, 5); watch(5, 5, 6); news(4, 0) 0; news(5, 0) 54; news(6, 0) 9; news(7, 0) 0");
        t.edge(18, "q without a TEXT: 1", "news(0, 1) 1; coil(9); watch(0, 0, 9); news(0, 1) 1; news(1999, 1) 1; 'rate 5' 0; news(0, 1) 1");
        t.edge(18, "whether a STEP of it FITS: of that DAY alone", "coil(1); run(3); step(0, 0, 1, 80); news(0, 2) 0; news(1, 2) 1; news(2, 2) 0; step(0, 0, 2, 85); news(2, 2) 0; step(0, 0, 2, -84); news(2, 2) 1");
        t.edge(18, "whether a STEP of it FITS: as its KIND says", "coil(1); step(4, 0, 0, 80); news(0, 2) 0; step(1, 0, 0, -80); news(0, 2) 0; step(3, 0, 0, 80); news(0, 2) 0; step(5, 0, 0, 80); news(0, 2) 1; watch(0, 0, 0); news(0, 2) 0");
        t.edge(18, "the last of forty STEPS", "coil(1); 39 * step(0, 0, 0, 1); news(0, 2) 0; step(0, 0, 0, 80); news(0, 2) 1");
    }

    private static void newsHeld() {
        t.edge(18, "r is held within 0 .. 999", "'rate d-1' 0; news(0, 0) 0; news(1, 0) 0; news(2, 0) 1; news(999, 0) 998; news(1000, 0) 999; news(1001, 0) 999; news(1999, 0) 999");
        t.edge(18, "q is held within 0 .. 999", "'knock d-1' 0; news(0, 1) 0; news(1, 1) 0; news(2, 1) 1; news(999, 1) 998; news(1000, 1) 999; news(1001, 1) 999; news(1999, 1) 999");
        t.edge(18, "r of the least int and the greatest", "'rate 8192*8192*32' 0; news(0, 0) 0; 'rate 8192*8192*32-1' 1; news(0, 0) 999");
        t.edge(18, "q of the least int and the greatest", "'knock 8192*8192*32' 0; news(0, 1) 0; 'knock 8192*8192*32-1' 1; news(0, 1) 999");
    }

    private static void since() {
        t.edge(19, "n is 0 .. 200", "since(-1) BAD; since(0) 5000; since(1) 5002; since(200) 5400; since(201) BAD; since(MIN) BAD; since(MAX) BAD");
        t.edge(19, "behind 0 DAYS more it is as it is", "set(2, 10000); since(0) 10000; set(2, 0); since(0) 0; set(2, 77); since(0) 77");
        t.edge(19, "NEWS of the open DAY by STEPS as they are", "coil(9); watch(0, 0, 0); step(1, 0, 0, 80); since(1) 9000; since(2) 9000");
        t.edge(19, "DAYS that are gone do not count", "coil(9); watch(0, 0, 0); run(1); step(1, 0, 0, 80); set(2, 5000); since(1) 5002");
        t.edge(19, "nothing is drawn", "coil(9); watch(0, 0, 99); set(3, 1); 'rate 9999' 0; 'knock 0' 1; since(1) 9; count(2) 0; count(12) 1; count(9) 0; count(8) 5000");
        t.edge(19, "DAYS above 1999 count, too", LAST_DAY + "'rate (d=2198)*500' 0; 'knock 0' 1; since(199) 5000; since(200) 3333");
        t.edge(19, "no COIL is WATCHED above 1999", "coil(5); watch(0, 1999, 1999); " + LAST_DAY + "since(1) 4989; since(2) 4991");
        t.edge(19, "it stays, if x and y are 0", "coil(9); 'knock 0' 0; step(0, 0, 0, 80); since(1) 5000");
    }

    private static void falls() {
        t.edge(20, "v is 0 .. 10000", "falls(-1) BAD; falls(0) NONE; falls(10000) 0; falls(10001) BAD; falls(MIN) BAD; falls(MAX) BAD");
        t.edge(20, "below v, not v itself", "coil(5); watch(0, 0, 9); falls(4990) 0; falls(4989) 1; falls(4979) 1; falls(4978) 2");
        t.edge(20, "NONE: it is never so", "falls(5000) NONE; set(2, 10000); falls(10000) NONE; set(2, 0); falls(0) NONE; falls(1) 0");
        t.edge(20, "behind a DAY, not ahead of it", "set(2, 4999); falls(5000) NONE; falls(5002) 0; set(2, 0); falls(10000) 0");
        t.edge(20, "the last of the 200 DAYS", "'rate (d=199)*500' 0; 'knock 0' 1; falls(5000) 199; falls(3333) NONE; falls(3334) 199");
        t.edge(20, "a DAY behind the 200", "'rate (d=200)*500' 0; 'knock 0' 1; falls(5000) NONE; run(1); falls(5000) 200");
        t.edge(20, "from the open DAY on", "coil(5); watch(0, 0, 99); run(7); set(2, 5000); falls(4990) 7; falls(4989) 8");
        t.edge(20, "DAYS above 1999 count, too", LAST_DAY + "'knock 0' 0; 'rate (d=2198)*500' 1; falls(5000) 2198; 'rate (d=2199)*500' 2; falls(5000) NONE");
        t.edge(20, "the first such DAY, though it rises again", "coil(1); 'rate (d=0)*9' 0; 'knock (d>0)*9' 1; falls(5000) 0");
    }

    private static void await() {
        t.edge(21, "p is 500000: at once", "'rate 500' 0; await() 0");
        t.edge(21, "p is 501000 first", "'rate 499' 0; await() 1");
        t.edge(21, "p is 500001", "'rate (d=0)*178+(d=1)*281+(d=2)*154' 0; await() NONE; 'rate (d=0)*178+(d=1)*281+(d=2)*154+(d=3)*1' 1; await() 3");
        t.edge(21, "p is cut: 500000 and a part", "'rate (d=0)*107+(d=1)*107+(d=2)*373' 0; await() 2");
        t.edge(21, "the greatest r, and none", "'rate 9999' 0; await() 0; 'rate 0-1' 1; await() NONE");
        t.edge(21, "the last of the 200 DAYS", "'rate (d=199)*500' 0; await() 199");
        t.edge(21, "a DAY behind the 200", "'rate (d=200)*500' 0; await() NONE; run(1); await() 200");
        t.edge(21, "from the open DAY on", "'rate (d<5)*500' 0; await() 0; run(4); await() 4; run(1); await() NONE");
        t.edge(21, "NONE: nothing is seen", "await() NONE; coil(1); watch(0, 0, 1999); await() NONE");
        t.edge(21, "SEEN without a TEXT", "coil(4); watch(0, 0, 1999); await() 172; coil(9); watch(1, 0, 1999); await() 52");
        t.edge(21, "DAYS above 1999 count, too", LAST_DAY + "'rate (d=2198)*500' 0; await() 2198; 'rate (d=2199)*500' 1; await() NONE");
        t.edge(21, "neither BELIEF nor STEPS count", "coil(1); step(1, 0, 0, 80); set(2, 0); 'rate 500' 0; await() 0");
    }

    private static void beyond() {
        t.edge(22, "NONE: without a TEXT of stars", "coil(9); watch(0, 0, 1999); beyond() NONE; 'rate 9999' 0; beyond() NONE; 'knock 0' 1; beyond() NONE");
        t.edge(22, "above, not the same", "coil(9); watch(0, 3, 1999); 'stars 9' 0; beyond() NONE; 'stars 8' 1; beyond() 3");
        t.edge(22, "what stars gives is not held below", "'stars 0-1' 0; beyond() 0; 'stars 0' 1; beyond() NONE; 'stars 8192*8192*32' 2; beyond() 0");
        t.edge(22, "what stars gives is not held above, r is", "'rate 9999' 0; 'stars 998' 1; beyond() 0; 'stars 999' 2; beyond() NONE; 'stars 8192*8192*32-1' 3; beyond() NONE");
        t.edge(22, "the last of the 200 DAYS", "'rate d=199' 0; 'stars 0' 1; beyond() 199");
        t.edge(22, "a DAY behind the 200", "'rate d=200' 0; 'stars 0' 1; beyond() NONE; run(1); beyond() 200");
        t.edge(22, "from the open DAY on", "'rate d<5' 0; 'stars 0' 1; beyond() 0; run(4); beyond() 4; run(1); beyond() NONE");
        t.edge(22, "stars of that DAY, and what is SEEN on it", "coil(4); watch(0, 0, 1999); 'stars 6-d' 0; beyond() 3; 'stars s' 1; beyond() NONE; 'stars s-(d=8)' 2; beyond() 8");
        t.edge(22, "DAYS above 1999 count, too", LAST_DAY + "'rate d=2198' 0; 'stars 0' 1; beyond() 2198; 'rate d=2199' 2; beyond() NONE");
        t.edge(22, "the TEXT of stars that was told last", "'stars 0-1' 0; 'stars 5' 1; beyond() NONE");
    }

    private static void seed() {
        t.edge(23, "what it was, of any int", "seed(MAX) 1; seed(MIN) MAX; seed(0) MIN; seed(-1) 0; count(12) -1");
        t.edge(23, "a draw wraps around", "seed(MAX); run(1); count(12) " + Draws.next(Integer.MAX_VALUE) + "; seed(MIN); run(1); count(12) " + Draws.next(Integer.MIN_VALUE));
        t.edge(23, "a draw from 0", "seed(0); run(1); count(12) 12345; run(1); seed(0) " + Draws.behind(0, 2));
    }
}
