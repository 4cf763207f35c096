/** The edges of promises 29 to 39, sentence by sentence. */
public final class KnocksEdgesTest {
    private static final Edges t = new Edges();

    public static void main(String[] args) {
        knock();
        pour();
        pourStops();
        chance();
        width();
        key();
        keys();
        jokes();
        offer();
        clear();
        best();
        bestOfSeveral();
        soonest();
        soonestDays();
        soonestOfSeveral();
        soonestAsSince();
        t.end(29, 39);
    }

    private static void knock() {
        t.edge(29, "HEIGHT is 999 at the most", "knock(999) 0; knock(1000) BAD; knock(MAX) BAD; count(4) 1; set(0, 999); chance() 1");
        t.edge(29, "HEIGHT is -999 at the least", "knock(-999) 0; knock(-1000) BAD; knock(MIN) BAD; count(4) 1; set(0, 999); chance() 1");
        t.edge(29, "its number, from 0 on", "knock(0) 0; knock(1000) BAD; knock(0) 1; knock(-7) 2");
        t.edge(29, "FULL: 60 at most", "60 * knock(80) 0..; knock(80) FULL; knock(0) FULL; count(4) 60; chance() 60");
        t.edge(29, "BAD stands ahead of FULL", "60 * knock(80); knock(1000) BAD; knock(-1000) BAD");
    }

    private static void pour() {
        t.edge(30, "BAD: a SHEET is 0 .. 3", "sheet(0, 0, 2); sheet(3, 0, 1); pour(-1) BAD; pour(0) 2; pour(3) 1; pour(4) BAD; pour(MIN) BAD; pour(MAX) BAD; count(4) 3");
        t.edge(30, "NOTHING: it is MISSING", "pour(0) NOTHING; pour(3) NOTHING; sheet(0, 0, 2); sheet(0, -1, 0); pour(0) NOTHING; count(4) 0");
        t.edge(30, "no place: none came", "sheet(0, 0, 0); sheet(1, 1, 0); pour(0) 0; pour(1) 0; count(4) 0");
        t.edge(30, "all 24 places", "sheet(0, 0, 24); mark(0, 23, 80); pour(0) 24; count(4) 24; chance() 1; sheet(1, 1, 24); mark(1, 0, -80); pour(1) 24; chance() 2");
        t.edge(30, "FULL: they have no room, none comes then", "37 * knock(5); sheet(0, 0, 24); pour(0) FULL; count(4) 37; sheet(0, 0, 23); pour(0) 23; count(4) 60");
        t.edge(30, "FULL: of sixty one has no room, none has", "60 * knock(5); sheet(0, 0, 1); pour(0) FULL; sheet(0, 0, 0); pour(0) 0; count(4) 60");
        t.edge(30, "FULL: those behind the first that stops need none", "59 * knock(5); sheet(0, 1, 9); mark(0, 1, NONE); pour(0) 1; count(4) 60; pour(0) FULL; mark(0, 0, 1000); pour(0) 0");
        t.edge(30, "NOTHING stands ahead of FULL", "60 * knock(5); pour(0) NOTHING; pour(4) BAD");
        t.edge(30, "place by place from 0 on", "coil(1); watch(0, 0, 9); 'knock 9999' 0; sheet(0, 0, 3); mark(0, 0, 11); mark(0, 1, 22); mark(0, 2, 33); knock(7); pour(0) 3; seed("
            + Draws.seed(1000, 5, 0, 0, 4, 1) + "); run(1); told(0, 3) 11; seed(" + Draws.seed(1000, 5, 0, 0, 4, 3) + "); run(1); told(1, 3) 33");
        t.edge(30, "the SHEET stays", "sheet(0, 0, 2); mark(0, 1, 80); pour(0) 2; pour(0) 2; chance() 2; lay(0, 2, 0); item(0, 1) 80; item(0, 2) INDEX");
    }

    private static void pourStops() {
        t.edge(30, "999 and -999 come", "sheet(0, 0, 3); mark(0, 0, 999); mark(0, 1, -999); pour(0) 3; sheet(1, 1, 3); mark(1, 0, -999); mark(1, 1, 999); pour(1) 3");
        t.edge(30, "up to the first that is 1000", "sheet(0, 0, 3); mark(0, 1, 1000); pour(0) 1; sheet(1, 1, 3); mark(1, 2, 1000); pour(1) 2; count(4) 3");
        t.edge(30, "up to the first that is -1000", "sheet(0, 0, 3); mark(0, 1, -1000); pour(0) 1; sheet(1, 1, 3); mark(1, 2, -1000); pour(1) 2; count(4) 3");
        t.edge(30, "up to the first of NO NUMBER", "sheet(1, 1, 3); mark(1, 2, NONE); pour(1) 2; mark(1, 0, NONE); pour(1) 0; count(4) 2");
        t.edge(30, "far beyond", "sheet(0, 0, 2); mark(0, 1, 32767); pour(0) 1; mark(0, 0, -32768); pour(0) 0; sheet(1, 1, 2); mark(1, 1, 99999); pour(1) 1; mark(1, 0, -99999); pour(1) 0");
        t.edge(30, "what stands behind it does not come", "sheet(0, 0, 4); mark(0, 0, 80); mark(0, 1, 1000); mark(0, 2, 80); mark(0, 3, 80); pour(0) 1; chance() 1");
    }

    private static void chance() {
        t.edge(31, "none: 0", "chance() 0; knock(85); chance() 0");
        t.edge(31, "WANTED less PEN, or more", "knock(75); chance() 0; knock(76); chance() 1");
        t.edge(31, "WANTED and PEN, or less", "knock(85); chance() 0; knock(84); chance() 1");
        t.edge(31, "as a STEP would: below 0, too", "knock(-75); knock(-85); chance() 0; knock(-76); chance() 1; knock(-84); chance() 2");
        t.edge(31, "as a STEP would: a HEIGHT of 0", "knock(0); set(0, 5); chance() 0; set(0, 4); chance() 1");
        t.edge(31, "by WANTED and PEN as they are", "knock(80); knock(81); set(1, 0); chance() 1; set(0, 81); chance() 1; set(0, 82); chance() 0; set(1, 1); chance() 1; set(1, 2); chance() 2");
        t.edge(31, "all sixty", "60 * knock(-84); chance() 60; set(1, 3); chance() 0");
        t.edge(31, "the first and the last", "knock(80); knock(1); knock(80); chance() 2");
    }

    private static void width() {
        t.edge(32, "k is 0 .. 60", "60 * knock(83); width(-1) BAD; width(0) 0; width(1) 3; width(60) 3; width(61) BAD; width(MIN) BAD; width(MAX) BAD");
        t.edge(32, "for 0 the least PEN does", "width(0) 0; knock(999); width(0) 0");
        t.edge(32, "NONE: there are fewer KNOCKS", "width(1) NONE; width(60) NONE; knock(80); width(1) 0; width(2) NONE");
        t.edge(32, "the least PEN is 0", "knock(80); knock(-80); width(1) 0; width(2) 0");
        t.edge(32, "the least PEN is 1", "knock(81); width(1) 1; knock(-79); width(2) 1");
        t.edge(32, "the greatest PEN is 99", "knock(179); width(1) 99; knock(180); width(2) NONE; knock(-179); width(2) 99");
        t.edge(32, "below WANTED, too", "set(0, 999); knock(900); width(1) 99; knock(899); width(2) NONE; knock(-900); width(2) 99");
        t.edge(32, "the least WANTED", "set(0, 1); knock(0); width(1) 1; knock(100); width(2) 99; knock(101); width(3) NONE");
        t.edge(32, "k of them or more", "knock(82); knock(82); knock(90); width(1) 2; width(2) 2; width(3) 10");
        t.edge(32, "whatever PEN is", "knock(85); set(1, 99); width(1) 5; set(1, 0); width(1) 5; set(1, 1) 0");
    }

    private static void key() {
        t.edge(33, "from 0 on", "key(0, 5) 0; key(-1, 5) BAD; key(MIN, 5) BAD; count(5) 1; keys(0) 1");
        t.edge(33, "to 1999", "key(5, 1999) 0; key(5, 2000) BAD; key(5, MAX) BAD; count(5) 1; keys(1999) 1");
        t.edge(33, "from 1999, no later; to 0, no sooner", "key(1999, 1999) 0; key(2000, 2000) BAD; key(2000, 1999) BAD; key(0, 0) 1; key(-1, -1) BAD; key(0, -1) BAD; key(-1, 0) BAD; count(5) 2");
        t.edge(33, "to is not below from", "key(7, 7) 0; key(7, 6) BAD; key(1999, 0) BAD; count(5) 1");
        t.edge(33, "FULL: 10 at most", "10 * key(3, 4) 0..; key(3, 4) FULL; key(9, 9) FULL; count(5) 10; keys(9) 0");
        t.edge(33, "BAD stands ahead of FULL", "10 * key(3, 4); key(4, 3) BAD; key(-1, 3) BAD; key(0, 2000) BAD");
        t.edge(33, "no COIL is needed, nor WATCHED by it", "key(0, 9) 0; coil(5) 0; seen(0) 0; coilTold(0, 3) 0; count(1) 0");
    }

    private static void keys() {
        t.edge(34, "BAD: a DAY is 0 .. 1999", "key(0, 1999); keys(-1) BAD; keys(0) 1; keys(1999) 1; keys(2000) BAD; keys(MIN) BAD; keys(MAX) BAD");
        t.edge(34, "from a DAY to a DAY (both)", "key(3, 5); keys(2) 0; keys(3) 1; keys(4) 1; keys(5) 1; keys(6) 0");
        t.edge(34, "none, and all ten", "keys(4) 0; 10 * key(3, 4); keys(4) 10; keys(5) 0");
        t.edge(34, "each by itself", "key(3, 5); key(5, 8); key(5, 5); keys(4) 1; keys(5) 3; keys(6) 1; keys(9) 0");
        t.edge(34, "a WATCH is no KEY", "coil(1); watch(0, 0, 9); keys(0) 0");
    }

    private static void jokes() {
        t.edge(35, "none", "jokes() 0; coil(1); step(0, 0, 0, 80); jokes() 0");
        t.edge(35, "on whose DAY a KEY is had: both ends", """
            coil(1); run(6); key(2, 3); step(0, 0, 1, 80); jokes() 0; step(0, 0, 2, 80); jokes() 1; step(0, 0, 3, 80); jokes() 2; step(0, 0, 4, 80); jokes() 2
            """);
        t.edge(35, "a STEP that FITS", "coil(1); key(0, 0); step(0, 0, 0, 75); step(0, 0, 0, 85); jokes() 0; step(0, 0, 0, 76); step(0, 0, 0, -84); jokes() 2");
        t.edge(35, "as its KIND says", """
            coil(1); coil(1); key(0, 0); step(4, 0, 0, 80); step(1, 0, 0, -80); step(3, 0, 0, 80); jokes() 0
            step(5, 0, 0, 80); jokes() 1; watch(0, 0, 0); jokes() 0; step(2, 0, 0, -80); jokes() 1; pair(0, 1); step(0, 1, 0, 1); jokes() 2
            """);
        t.edge(35, "two KEYS make one JOKE", "coil(1); key(0, 0); key(0, 9); step(0, 0, 0, 80); jokes() 1");
        t.edge(35, "all forty", "coil(1); key(0, 0); 40 * step(0, 0, 0, 80); jokes() 40; fit() 40");
    }

    private static void offer() {
        t.edge(36, "SIZE is 1 .. 9", "offer(0, 5) BAD; offer(1, 5) 0; offer(9, 5) 1; offer(10, 5) BAD; offer(MIN, 5) BAD; offer(MAX, 5) BAD; count(6) 2; best(9999, 1) 10");
        t.edge(36, "PRICE is 0 .. 999", "offer(5, -1) BAD; offer(5, 0) 0; offer(5, 999) 1; offer(5, 1000) BAD; offer(5, MIN) BAD; offer(5, MAX) BAD; count(6) 2; best(9999, 2) 999");
        t.edge(36, "FULL: 8 at most", "8 * offer(1, 1) 0..; offer(1, 1) FULL; offer(9, 0) FULL; count(6) 8; best(9999, 1) 8");
        t.edge(36, "BAD stands ahead of FULL", "8 * offer(1, 1); offer(0, 1) BAD; offer(10, 1) BAD; offer(1, -1) BAD; offer(1, 1000) BAD");
    }

    private static void clear() {
        t.edge(37, "how many there were: none", "clear() 0; count(6) 0");
        t.edge(37, "how many there were: eight", "8 * offer(1, 1); clear() 8; count(6) 0; clear() 0; best(9999, 0) 0; best(9999, 1) 0");
        t.edge(37, "then numbers begin with 0, and there is room", "8 * offer(9, 1); clear(); 8 * offer(1, 1) 0..; offer(1, 1) FULL; best(9999, 1) 8");
        t.edge(37, "those that were are gone", "offer(9, 1); offer(9, 1); clear() 2; offer(2, 3) 0; best(9999, 0) 1; best(9999, 1) 2; best(9999, 2) 3; soonest(9999, 4995, 0) 1");
    }

    private static void best() {
        t.edge(38, "the sum is 0 .. 9999", "offer(5, 0); best(-1, 0) BAD; best(0, 0) 1; best(9999, 0) 1; best(10000, 0) BAD; best(MIN, 0) BAD; best(MAX, 0) BAD");
        t.edge(38, "BAD: what is 0 .. 2", "offer(5, 7); best(9, -1) BAD; best(9, 0) 1; best(9, 1) 5; best(9, 2) 7; best(9, 3) BAD; best(9, MIN) BAD; best(9, MAX) BAD");
        t.edge(38, "no OFFERS: the empty set", "best(0, 0) 0; best(0, 1) 0; best(0, 2) 0; best(9999, 0) 0; best(9999, 1) 0; best(9999, 2) 0");
        t.edge(38, "PRICES together of the sum, or less", "offer(5, 7); offer(4, 6); best(13, 0) 3; best(12, 0) 1; best(7, 0) 1; best(6, 0) 2; best(5, 0) 0; best(5, 1) 0; best(5, 2) 0");
        t.edge(38, "all eight, the dearest and greatest", "8 * offer(9, 999); best(9999, 0) 255; best(9999, 1) 72; best(9999, 2) 7992; best(7992, 0) 255; best(7991, 0) 127; best(998, 0) 0; best(999, 0) 1");
        t.edge(38, "OFFERS for nothing", "offer(1, 0); offer(9, 1); offer(2, 0); best(0, 0) 5; best(0, 1) 3; best(0, 2) 0; best(1, 0) 7");
    }

    private static void bestOfSeveral() {
        t.edge(38, "most SIZE stands ahead of cheap", "offer(5, 1); offer(6, 99); best(99, 0) 2; best(100, 0) 3; best(98, 0) 1");
        t.edge(38, "of several the cheapest, though its bits are more", "offer(5, 8); offer(5, 7); best(8, 0) 2; best(8, 2) 7");
        t.edge(38, "of several the cheapest, though its bits are less", "offer(5, 7); offer(5, 8); best(8, 0) 1; best(8, 2) 7");
        t.edge(38, "of these the least as bits", "offer(5, 7); offer(5, 7); offer(5, 7); best(7, 0) 1; best(14, 0) 3");
        t.edge(38, "the least as bits, not the fewest", "offer(2, 3); offer(3, 4); offer(5, 7); best(7, 0) 3; best(7, 1) 5; best(7, 2) 7");
        t.edge(38, "the fewest, if they are the least as bits", "offer(5, 7); offer(2, 3); offer(3, 4); best(7, 0) 1");
    }

    private static void soonest() {
        t.edge(39, "the sum is 0 .. 9999", "offer(5, 0); soonest(-1, 5000, 0) BAD; soonest(0, 5000, 0) 1; soonest(9999, 5000, 0) 1; soonest(10000, 5000, 0) BAD; soonest(MIN, 5000, 0) BAD; soonest(MAX, 5000, 0) BAD");
        t.edge(39, "v is 0 .. 10000", "soonest(0, -1, 0) BAD; soonest(0, 0, 0) NONE; soonest(0, 10000, 0) 0; soonest(0, 10001, 0) BAD; soonest(0, MIN, 0) BAD; soonest(0, MAX, 0) BAD");
        t.edge(39, "BAD: what is 0 .. 2", "offer(9, 7); soonest(9, 4980, -1) BAD; soonest(9, 4980, 0) 1; soonest(9, 4980, 1) 1; soonest(9, 4980, 2) 7; soonest(9, 4980, 3) BAD; soonest(9, 4980, MIN) BAD; soonest(9, 4980, MAX) BAD");
        t.edge(39, "BAD stands ahead of NONE", "soonest(0, 0, 3) BAD; soonest(10000, 0, 0) BAD; soonest(0, 0, 0) NONE; soonest(0, 0, 1) NONE; soonest(0, 0, 2) NONE");
        t.edge(39, "the empty set", "offer(9, 7); soonest(9999, 10000, 0) 0; soonest(9999, 10000, 1) 1; soonest(9999, 10000, 2) 0");
        t.edge(39, "PRICES together of the sum, or less", "offer(9, 7); offer(9, 6); soonest(5, 4990, 0) NONE; soonest(6, 4980, 0) 2; soonest(7, 4980, 0) 2; soonest(12, 4960, 1) 2; soonest(13, 4960, 1) 1; soonest(13, 4960, 0) 3; soonest(13, 4960, 2) 13");
        t.edge(39, "all eight, the dearest and greatest", "8 * offer(9, 999); 'rate (s=72)*500' 0; soonest(7992, 4000, 0) 255; soonest(7992, 4000, 1) 1; soonest(7992, 4000, 2) 7992; soonest(7991, 4000, 0) NONE");
    }

    private static void soonestDays() {
        t.edge(39, "below v, not v itself", "offer(9, 7); soonest(7, 4980, 1) 1; soonest(7, 4979, 1) 2");
        t.edge(39, "60 DAYS at the most", "offer(5, 3); 'rate (d=59)*s*100' 0; 'knock 0' 1; soonest(3, 4000, 1) 60; soonest(3, 4000, 0) 1; soonest(3, 4000, 2) 3; soonest(2, 4000, 1) NONE");
        t.edge(39, "not on the 61st", "offer(5, 3); 'rate (d=60)*s*100' 0; 'knock 0' 1; soonest(3, 4000, 1) NONE; run(1); soonest(3, 4000, 1) 60");
        t.edge(39, "1 DAY at the least", "set(2, 0); soonest(0, 1, 1) 1; soonest(0, 10000, 1) 1");
        t.edge(39, "behind a DAY, not ahead of it", "set(2, 4999); soonest(0, 5000, 1) NONE; soonest(0, 5002, 1) 1");
        t.edge(39, "from the open DAY on", "offer(5, 3); run(7); 'rate (d=9)*s*100' 0; 'knock 0' 1; set(2, 5000); soonest(3, 4000, 1) 3");
        t.edge(39, "DAYS above 1999 count, too", "offer(5, 3); 33 * run(60); run(19); set(2, 5000); 'rate (d=2058)*s*100' 0; 'knock 0' 1; soonest(3, 4000, 1) 60; 'rate (d=2059)*s*100' 2; soonest(3, 4000, 1) NONE");
        t.edge(39, "NONE: sure, and sure not to be", "offer(9, 0); set(2, 10000); soonest(9999, 10000, 0) NONE; set(2, 0); soonest(9999, 0, 0) NONE; soonest(9999, 1, 0) 0");
    }

    private static void soonestOfSeveral() {
        t.edge(39, "the fewest DAYS stand ahead of cheap", "offer(5, 1); offer(9, 99); soonest(99, 4980, 0) 2; soonest(99, 4980, 1) 1; soonest(98, 4980, 0) 1; soonest(98, 4980, 1) 2");
        t.edge(39, "of several the cheapest, though its bits are more", "offer(9, 8); offer(9, 7); soonest(99, 4980, 0) 2; soonest(99, 4980, 2) 7");
        t.edge(39, "of several the cheapest, though its bits are less", "offer(9, 7); offer(9, 8); soonest(99, 4980, 0) 1; soonest(99, 4980, 2) 7");
        t.edge(39, "of several the cheapest, though its SIZE is less", "offer(9, 8); offer(5, 7); 'rate (s>4)*500' 0; soonest(99, 4980, 0) 2; soonest(99, 4980, 2) 7");
        t.edge(39, "of these the least as bits", "offer(9, 7); offer(9, 7); offer(9, 7); soonest(99, 4980, 0) 1");
        t.edge(39, "the least as bits, not the fewest", "offer(4, 3); offer(5, 4); offer(9, 7); soonest(7, 4980, 0) 3; soonest(7, 4980, 2) 7");
        t.edge(39, "OFFERS for nothing that are not needed", "offer(9, 0); offer(9, 0); soonest(0, 4980, 0) 1; soonest(0, 10000, 0) 0; soonest(0, 4960, 0) 3");
        t.edge(39, "more SIZE is not always sooner", "offer(5, 3); offer(6, 2); 'rate (s=5)*500' 0; 'knock 0' 1; soonest(9, 4000, 0) 1; soonest(9, 4000, 2) 3");
    }

    private static void soonestAsSince() {
        t.edge(39, "its SIZE is more SEEN on each DAY", "coil(4); watch(0, 0, 0); offer(5, 1); soonest(1, 4980, 1) 1; 'rate (s=9)*500+(s=5)*100' 0; 'knock 0' 1; soonest(1, 3334, 1) 1; soonest(1, 3333, 1) 2; soonest(0, 4999, 1) NONE");
        t.edge(39, "q by it, too", "offer(9, 1); 'rate 500' 0; 'knock 500-(s>8)*100' 1; soonest(1, 5000, 0) 1; soonest(0, 5000, 0) NONE");
        t.edge(39, "NEWS by STEPS as they are", "coil(1); step(0, 0, 0, 80); offer(9, 0); soonest(0, 1, 0) 0; soonest(0, 1, 1) 1; set(0, 99); soonest(0, 4980, 0) 1");
        t.edge(39, "STEPS of DAYS that are gone do not count", "coil(5); watch(0, 0, 99); step(0, 0, 0, 80); run(1); set(2, 5000); soonest(0, 4990, 1) 1; soonest(0, 4979, 1) 2; soonest(0, 4968, 1) 3");
        t.edge(39, "as SINCE, without OFFERS", "coil(5); watch(0, 0, 99); since(3) 4967; soonest(0, 4968, 1) 3; soonest(0, 4967, 1) 4; falls(4968) 2");
    }
}
