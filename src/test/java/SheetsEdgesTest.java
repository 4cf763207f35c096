/** The edges of promises 40 to 47, sentence by sentence. */
public final class SheetsEdgesTest {
    private static final Edges t = new Edges();

    public static void main(String[] args) {
        sheet();
        sheetAnew();
        markRefused();
        markShorts();
        markFloats();
        reads();
        readsAtTheEnds();
        copyRefused();
        copyPlaces();
        copyAsTheyWere();
        lay();
        layHolds();
        ask();
        askByKind();
        item();
        rest();
        t.end(40, 47);
    }

    private static void sheet() {
        t.edge(40, "BAD: a SHEET is 0 .. 3", "sheet(-1, 0, 5) BAD; sheet(0, 0, 5) 5; sheet(3, 0, 5) 5; sheet(4, 0, 5) BAD; sheet(MIN, 0, 5) BAD; sheet(MAX, 0, 5) BAD");
        t.edge(40, "BAD: a sort is -1 .. 1", "sheet(0, -2, 5) BAD; sheet(0, 2, 5) BAD; sheet(0, MIN, 5) BAD; sheet(0, MAX, 5) BAD; mark(0, 0, 1) NOTHING; sheet(0, 0, 5) 5; sheet(1, 1, 5) 5; sheet(0, -1, 5) 0");
        t.edge(40, "BAD: n above 24", "sheet(0, 0, 24) 24; sheet(1, 1, 24) 24; sheet(0, 0, 25) BAD; sheet(1, 1, 25) BAD; sheet(2, 0, MAX) BAD; mark(2, 0, 1) NOTHING; mark(0, 23, 1) 1; mark(0, 24, 1) INDEX; mark(1, 23, 1) 1; mark(1, 24, 1) INDEX");
        t.edge(40, "SIZE: n below 0", "sheet(0, 0, 0) 0; sheet(1, 1, 0) 0; sheet(0, 0, -1) SIZE; sheet(1, 1, -1) SIZE; sheet(2, 0, MIN) SIZE; mark(2, 0, 1) NOTHING; mark(0, 0, 1) INDEX");
        t.edge(40, "BAD stands ahead of SIZE", "sheet(4, 0, -1) BAD; sheet(-1, 1, -1) BAD; sheet(0, 2, -1) BAD; sheet(0, -2, -1) BAD");
        t.edge(40, "sort -1: MISSING, n any: 0", "sheet(0, 0, 5); sheet(0, -1, 25) 0; mark(0, 0, 1) NOTHING; sheet(0, -1, -1) 0; sheet(0, -1, MIN) 0; sheet(0, -1, MAX) 0; sheet(0, -1, 0) 0; sheet(0, -1, 24) 0; mark(0, 0, 1) NOTHING");
        t.edge(40, "sort -1 of no SHEET", "sheet(4, -1, 0) BAD; sheet(-1, -1, 0) BAD");
        t.edge(40, "no place is not MISSING", "sheet(0, 0, 0) 0; mark(0, 0, 1) INDEX; lay(0, 2, 0) 0; lay(0, 2, 1) NOTHING; pour(0) 0");
    }

    private static void sheetAnew() {
        t.edge(40, "all 0", "sheet(0, 0, 3); mark(0, 0, 5); mark(0, 2, 6); sheet(0, 0, 3) 3; lay(0, 2, 0); item(0, 0) 0; item(0, 1) 0; item(0, 2) 0; item(0, 3) INDEX");
        t.edge(40, "all 0, of another sort", "sheet(0, 1, 3); mark(0, 1, NONE); mark(0, 2, 70000); sheet(0, 0, 3) 3; lay(0, 2, 0); item(0, 1) 0; item(0, 2) 0; mark(0, 0, NONE) KIND");
        t.edge(40, "all 0, longer than it was", "sheet(0, 0, 3); mark(0, 2, 5); sheet(0, 0, 1); sheet(0, 0, 24); lay(0, 2, 0); item(0, 2) 0; item(0, 23) 0");
        t.edge(40, "what is refused leaves the row", "sheet(0, 0, 3); mark(0, 2, 5); sheet(0, 0, 25) BAD; sheet(0, 1, -1) SIZE; sheet(0, 2, 1) BAD; lay(0, 2, 0); item(0, 2) 5; mark(0, 0, NONE) KIND");
        t.edge(40, "the other SHEETS stay", "sheet(0, 0, 3); sheet(1, 1, 2); mark(1, 1, 9); sheet(0, -1, 0); lay(0, 2, 1); item(0, 1) 9; item(0, 2) INDEX");
    }

    private static void markRefused() {
        t.edge(41, "BAD: a SHEET is 0 .. 3", "sheet(0, 0, 1); sheet(3, 0, 1); mark(-1, 0, 5) BAD; mark(0, 0, 5) 1; mark(3, 0, 5) 1; mark(4, 0, 5) BAD; mark(MIN, 0, 5) BAD; mark(MAX, 0, 5) BAD");
        t.edge(41, "NOTHING: it is MISSING", "mark(0, 0, 5) NOTHING; mark(3, -1, NONE) NOTHING; sheet(0, 0, 1); sheet(0, -1, 0); mark(0, 0, 5) NOTHING");
        t.edge(41, "INDEX: there is no such place", "sheet(0, 0, 3); mark(0, -1, 5) INDEX; mark(0, 0, 5) 1; mark(0, 2, 5) 1; mark(0, 3, 5) INDEX; mark(0, MIN, 5) INDEX; mark(0, MAX, 5) INDEX");
        t.edge(41, "INDEX: of 24 places", "sheet(0, 1, 24); mark(0, 23, 5) 1; mark(0, 24, 5) INDEX; mark(0, -1, 5) INDEX");
        t.edge(41, "INDEX: of no place", "sheet(0, 0, 0); mark(0, 0, 5) INDEX; sheet(1, 1, 0); mark(1, 0, NONE) INDEX");
        t.edge(41, "BAD of a SHEET stands first", "mark(4, -1, NONE) BAD; mark(-1, 99, 100000) BAD");
        t.edge(41, "NOTHING stands ahead of INDEX, KIND, BAD of v", "mark(0, 99, NONE) NOTHING; mark(0, -1, 100000) NOTHING");
        t.edge(41, "INDEX stands ahead of KIND", "sheet(0, 0, 3); mark(0, 3, NONE) INDEX; mark(0, -1, NONE) INDEX; mark(0, 2, NONE) KIND");
        t.edge(41, "INDEX stands ahead of BAD of v", "sheet(0, 1, 3); mark(0, 3, 100000) INDEX; mark(0, -1, -100000) INDEX; mark(0, 2, 100000) BAD");
    }

    private static void markShorts() {
        t.edge(41, "KIND: NONE in a row of shorts", "sheet(0, 0, 1); mark(0, 0, 7); mark(0, 0, NONE) KIND; lay(0, 2, 0); item(0, 0) 7");
        t.edge(41, "of shorts its lowest 16 bits: the greatest", "sheet(0, 0, 3); mark(0, 0, 32767) 1; mark(0, 1, 32768) 1; mark(0, 2, 65535) 1; lay(0, 2, 0); item(0, 0) 32767; item(0, 1) -32768; item(0, 2) -1");
        t.edge(41, "of shorts its lowest 16 bits: the least", "sheet(0, 0, 3); mark(0, 0, -32768) 1; mark(0, 1, -32769) 1; mark(0, 2, -65536) 1; lay(0, 2, 0); item(0, 0) -32768; item(0, 1) 32767; item(0, 2) 0");
        t.edge(41, "of shorts its lowest 16 bits: any int", "sheet(0, 0, 4); mark(0, 0, MAX) 1; mark(0, 1, MIN) 1; mark(0, 2, 65536) 1; mark(0, 3, 100000) 1; lay(0, 2, 0); item(0, 0) -1; item(0, 1) 0; item(0, 2) 0; item(0, 3) -31072");
        t.edge(41, "the ints beside NONE are none", "sheet(0, 0, 2); mark(0, 0, -1000000004) 1; mark(0, 1, -1000000006) 1; lay(0, 2, 0); item(0, 0) 13820; item(0, 1) 13818");
    }

    private static void markFloats() {
        t.edge(41, "of floats v, 99999 at the most", "sheet(0, 1, 1); mark(0, 0, 99999) 1; mark(0, 0, 100000) BAD; mark(0, 0, MAX) BAD; lay(0, 2, 0); item(0, 0) 99999");
        t.edge(41, "of floats v, -99999 at the least", "sheet(0, 1, 1); mark(0, 0, -99999) 1; mark(0, 0, -100000) BAD; mark(0, 0, MIN) BAD; lay(0, 2, 0); item(0, 0) -99999");
        t.edge(41, "of floats above a short", "sheet(0, 1, 2); mark(0, 0, 32768) 1; mark(0, 1, -32769) 1; lay(0, 2, 0); item(0, 0) 32768; item(0, 1) -32769");
        t.edge(41, "of floats 0 is a number", "sheet(0, 1, 1); mark(0, 0, NONE); mark(0, 0, 0) 1; lay(0, 2, 0); item(0, 0) 0; pour(0) 1");
        t.edge(41, "NONE: NO NUMBER, and a number again", "sheet(0, 1, 2); mark(0, 0, NONE) 1; lay(0, 2, 0); item(0, 0) KIND; item(0, 1) 0; mark(0, 0, 3) 1; lay(0, 2, 0); item(0, 0) 3");
        t.edge(41, "the ints beside NONE are BAD", "sheet(0, 1, 1); mark(0, 0, -1000000004) BAD; mark(0, 0, -1000000006) BAD; mark(0, 0, BAD) BAD");
    }

    private static void reads() {
        t.edge(42, "BAD: a SHEET is 0 .. 3", "coil(1); sheet(0, 0, 1); sheet(3, 0, 1); reads(-1, 0, 0) BAD; reads(0, 0, 0) NONE; reads(3, 0, 0) NONE; reads(4, 0, 0) BAD; reads(MIN, 0, 0) BAD; reads(MAX, 0, 0) BAD");
        t.edge(42, "BAD: there is no such COIL", "sheet(0, 0, 1); reads(0, 0, 0) BAD; coil(1); reads(0, 0, 0) NONE; reads(0, 1, 0) BAD; reads(0, -1, 0) BAD; reads(0, MIN, 0) BAD; reads(0, MAX, 0) BAD");
        t.edge(42, "BAD: a DAY is 0 .. 1999", "coil(1); sheet(0, 0, 1); reads(0, 0, -1) BAD; reads(0, 0, 0) NONE; reads(0, 0, 1999) NONE; reads(0, 0, 2000) BAD; reads(0, 0, MIN) BAD; reads(0, 0, MAX) BAD");
        t.edge(42, "NOTHING: it is MISSING", "coil(1); reads(0, 0, 0) NOTHING; reads(3, 0, 1999) NOTHING");
        t.edge(42, "BAD stands ahead of NOTHING", "reads(0, 0, 0) BAD; coil(1); reads(0, 1, 0) BAD; reads(0, 0, 2000) BAD; reads(0, 0, -1) BAD; reads(0, 0, 0) NOTHING");
        t.edge(42, "the first place at which it is not", "coil(1); sheet(0, 0, 3); mark(0, 1, 5); mark(0, 2, 5); reads(0, 0, 0) 1; mark(0, 0, 5); reads(0, 0, 0) 0; step(0, 0, 0, 5); reads(0, 0, 0) NONE");
        t.edge(42, "the last place", "coil(1); sheet(0, 0, 24); reads(0, 0, 0) NONE; mark(0, 23, 1); reads(0, 0, 0) 23; sheet(1, 1, 24); mark(1, 23, -1); reads(1, 0, 0) 23");
        t.edge(42, "NONE: no place", "coil(1); creep(0, 5); sheet(0, 0, 0); reads(0, 0, 7) NONE");
    }

    private static void readsAtTheEnds() {
        t.edge(42, "of numbers alone", "coil(1); sheet(0, 1, 3); 3 * mark(0, 0, NONE); mark(0, 1, NONE); mark(0, 2, NONE); creep(0, 9); reads(0, 0, 9) NONE; mark(0, 1, 91); reads(0, 0, 9) 1; mark(0, 1, 90); reads(0, 0, 9) NONE");
        t.edge(42, "place 0: on that DAY", "coil(1); creep(0, 1); sheet(0, 0, 2); mark(0, 0, 4); mark(0, 1, 5); reads(0, 0, 4) NONE; reads(0, 0, 3) 0; reads(0, 0, 5) 0; mark(0, 1, 4); reads(0, 0, 4) 1");
        t.edge(42, "DAYS behind 1999", "coil(1); creep(0, 9); sheet(0, 0, 24); mark(0, 0, 17991); reads(0, 0, 1999) 1; mark(0, 1, 18000); reads(0, 0, 1999) 2; mark(0, 2, 18009); reads(0, 0, 1999) 3");
        t.edge(42, "the line steps on the DAY of a STEP", "coil(1); run(5); step(0, 0, 4, 50); sheet(0, 0, 3); mark(0, 1, 50); mark(0, 2, 50); reads(0, 0, 3) NONE; reads(0, 0, 2) 1; reads(0, 0, 4) 0");
        t.edge(42, "LINE of that COIL", "coil(1); coil(1); step(0, 1, 0, 3); sheet(0, 0, 1); reads(0, 0, 0) NONE; reads(0, 1, 0) 0; mark(0, 0, 3); reads(0, 0, 0) 0; reads(0, 1, 0) NONE");
        t.edge(42, "a LINE above the greatest short", "coil(1); 40 * step(0, 0, 0, 999); sheet(0, 0, 1); mark(0, 0, 39960); reads(0, 0, 0) 0; sheet(1, 1, 1); mark(1, 0, 39960); reads(1, 0, 0) NONE");
        t.edge(42, "a LINE below 0", "coil(1); creep(0, -9); sheet(0, 0, 2); mark(0, 0, -17991); mark(0, 1, -18000); reads(0, 0, 1999) NONE");
    }

    private static void copyRefused() {
        t.edge(43, "BAD: a SHEET is 0 .. 3, the one that it comes from", "sheet(0, 0, 2); sheet(3, 0, 2); copy(-1, 0, 0, 0, 1) BAD; copy(4, 0, 0, 0, 1) BAD; copy(MIN, 0, 0, 0, 1) BAD; copy(MAX, 0, 0, 0, 1) BAD; copy(0, 0, 3, 0, 1) 1");
        t.edge(43, "BAD: a SHEET is 0 .. 3, the one that it goes to", "sheet(0, 0, 2); sheet(3, 0, 2); copy(0, 0, -1, 0, 1) BAD; copy(0, 0, 4, 0, 1) BAD; copy(0, 0, MIN, 0, 1) BAD; copy(0, 0, MAX, 0, 1) BAD; copy(3, 0, 0, 0, 1) 1");
        t.edge(43, "NOTHING: either is MISSING", "sheet(0, 0, 2); copy(1, 0, 0, 0, 1) NOTHING; copy(0, 0, 1, 0, 1) NOTHING; copy(1, 0, 1, 0, 0) NOTHING; copy(1, 0, 2, 0, 0) NOTHING");
        t.edge(43, "KIND: they are not of one sort", "sheet(0, 0, 2); sheet(1, 1, 2); copy(0, 0, 1, 0, 1) KIND; copy(1, 0, 0, 0, 1) KIND; copy(0, 0, 1, 0, 0) KIND; copy(1, 0, 1, 0, 1) 1");
        t.edge(43, "BAD stands ahead of NOTHING", "copy(0, 0, 4, 0, 1) BAD; copy(4, 0, 0, 0, 1) BAD; copy(-1, 9, 9, 9, 9) BAD");
        t.edge(43, "NOTHING stands ahead of KIND and INDEX", "sheet(0, 0, 2); copy(0, 9, 1, 0, 1) NOTHING; copy(1, -1, 0, 0, -1) NOTHING");
        t.edge(43, "KIND stands ahead of INDEX", "sheet(0, 0, 2); sheet(1, 1, 2); copy(0, -1, 1, 0, 1) KIND; copy(0, 0, 1, 9, 1) KIND; copy(1, 0, 0, 0, 3) KIND; copy(1, 0, 0, 0, -1) KIND");
    }

    private static void copyPlaces() {
        String two = "sheet(0, 0, 5); sheet(1, 0, 3); mark(0, 0, 1); mark(0, 4, 2); mark(1, 0, 3); mark(1, 2, 4); ";
        t.edge(43, "INDEX: no such place of the one", two + "copy(0, -1, 1, 0, 1) INDEX; copy(0, 0, 1, 0, 1) 1; copy(0, 4, 1, 0, 1) 1; copy(0, 5, 1, 0, 1) INDEX; copy(0, MIN, 1, 0, 1) INDEX; copy(0, MAX, 1, 0, 1) INDEX");
        t.edge(43, "INDEX: no such place of the other", two + "copy(0, 0, 1, -1, 1) INDEX; copy(0, 0, 1, 0, 1) 1; copy(0, 0, 1, 2, 1) 1; copy(0, 0, 1, 3, 1) INDEX; copy(0, 0, 1, MIN, 1) INDEX; copy(0, 0, 1, MAX, 1) INDEX");
        t.edge(43, "INDEX: the last of them is no place of the one", two + "copy(0, 3, 1, 0, 2) 2; copy(0, 4, 1, 0, 2) INDEX; copy(1, 0, 0, 0, 3) 3; copy(1, 0, 0, 0, 4) INDEX; copy(1, 1, 0, 0, 3) INDEX");
        t.edge(43, "INDEX: the last of them is no place of the other", two + "copy(0, 0, 1, 0, 3) 3; copy(0, 0, 1, 0, 4) INDEX; copy(0, 0, 1, 1, 3) INDEX; copy(0, 0, 1, 2, 2) INDEX");
        t.edge(43, "INDEX: many below 0", two + "copy(0, 0, 1, 0, -1) INDEX; copy(0, 1, 1, 1, -1) INDEX; copy(0, 0, 1, 0, MIN) INDEX; copy(0, 5, 1, 3, -1) INDEX");
        t.edge(43, "none comes: 0", two + "copy(0, 0, 1, 0, 0) 0; copy(0, 5, 1, 3, 0) 0; copy(0, 6, 1, 0, 0) INDEX; copy(0, 0, 1, 4, 0) INDEX; copy(0, -1, 1, 0, 0) INDEX; copy(0, 0, 1, -1, 0) INDEX; lay(0, 2, 1); item(0, 0) 3; item(0, 2) 4");
        t.edge(43, "of no place none comes", "sheet(0, 0, 0); sheet(1, 0, 0); copy(0, 0, 1, 0, 0) 0; copy(0, 0, 1, 0, 1) INDEX; copy(0, 1, 1, 0, 0) INDEX; copy(0, 0, 0, 0, 0) 0");
        t.edge(43, "sums that wrap around", two + "copy(0, 1, 1, 0, MAX) INDEX; copy(0, MAX, 1, 0, MAX) INDEX; copy(0, 0, 1, MAX, 1) INDEX; copy(0, MAX, 1, MAX, 2) INDEX; copy(0, MIN, 1, MIN, MIN) INDEX");
        t.edge(43, "all 24 places", "sheet(0, 0, 24); sheet(1, 0, 24); mark(0, 0, 5); mark(0, 23, 6); copy(0, 0, 1, 0, 24) 24; copy(0, 0, 1, 0, 25) INDEX; copy(0, 1, 1, 0, 24) INDEX; lay(0, 2, 1); item(0, 0) 5; item(0, 23) 6");
    }

    private static void copyAsTheyWere() {
        String row = "sheet(0, 0, 5); mark(0, 0, 1); mark(0, 1, 2); mark(0, 2, 3); mark(0, 3, 4); mark(0, 4, 5); ";
        String told = "; lay(0, 2, 0); item(0, 0) %d; item(0, 1) %d; item(0, 2) %d; item(0, 3) %d; item(0, 4) %d";
        t.edge(43, "the same, onwards: as they were", row + "copy(0, 0, 0, 1, 4) 4" + told.formatted(1, 1, 2, 3, 4));
        t.edge(43, "the same, backwards: as they were", row + "copy(0, 1, 0, 0, 4) 4" + told.formatted(2, 3, 4, 5, 5));
        t.edge(43, "the same, to where they are", row + "copy(0, 0, 0, 0, 5) 5" + told.formatted(1, 2, 3, 4, 5));
        t.edge(43, "the same, two places on", row + "copy(0, 0, 0, 2, 3) 3" + told.formatted(1, 2, 1, 2, 3));
        t.edge(43, "another one: the first stays", row + "sheet(1, 0, 2); copy(0, 3, 1, 0, 2) 2; lay(1, 2, 1); item(1, 0) 4; item(1, 1) 5" + told.formatted(1, 2, 3, 4, 5));
        t.edge(43, "NO NUMBER comes as it is", "sheet(0, 1, 2); sheet(1, 1, 2); mark(0, 0, NONE); mark(0, 1, -99999); mark(1, 1, NONE); copy(0, 0, 1, 0, 2) 2; lay(0, 2, 1); item(0, 0) KIND; item(0, 1) -99999");
    }

    private static void lay() {
        t.edge(44, "BAD: a SLOT is 0 .. 4", "lay(-1, 3, 7) BAD; lay(0, 3, 7) 0; lay(4, 3, 7) 0; lay(5, 3, 7) BAD; lay(MIN, 3, 7) BAD; lay(MAX, 3, 7) BAD");
        t.edge(44, "BAD: a thing is 0 .. 3", "lay(0, -1, 7) BAD; lay(0, 4, 7) BAD; lay(0, MIN, 7) BAD; lay(0, MAX, 7) BAD; lay(0, 0, 7) 0; lay(0, 3, 7) 0");
        t.edge(44, "BAD: there is no STEP k", "lay(0, 1, 0) BAD; coil(1); step(0, 0, 0, 7); lay(0, 1, -1) BAD; lay(0, 1, 1) BAD; lay(0, 1, MIN) BAD; lay(0, 1, MAX) BAD; lay(0, 1, 0) 0; ask(0, 0) 7");
        t.edge(44, "BAD: there is no SHEET k", "sheet(0, 0, 1); sheet(3, 0, 1); lay(0, 2, -1) BAD; lay(0, 2, 4) BAD; lay(0, 2, MIN) BAD; lay(0, 2, MAX) BAD; lay(0, 2, 0) 0; lay(0, 2, 3) 2");
        t.edge(44, "the number k is any int", "lay(0, 3, MIN) 0; rest(0, 1000) -648; lay(0, 3, MAX) 3; rest(0, 1000) 647; lay(0, 3, 0) 3; rest(0, 1000) 0; lay(0, 3, NONE) 3; rest(0, MIN) NONE");
        t.edge(44, "nothing, k any", "lay(0, 3, 5); lay(0, 0, MIN) 3; lay(0, 0, MAX) 0; lay(0, 0, -1) 0; rest(0, 1) NOTHING");
        t.edge(44, "NOTHING: that SHEET is MISSING", "lay(0, 2, 0) NOTHING; lay(0, 2, 3) NOTHING; lay(0, 0, 0) 0; sheet(0, 0, 0); lay(0, 2, 0) 0");
        t.edge(44, "BAD stands ahead of NOTHING", "lay(5, 2, 0) BAD; lay(-1, 2, 0) BAD; lay(0, 2, 4) BAD; lay(0, 2, 0) NOTHING");
        t.edge(44, "what is refused leaves what it held", "lay(0, 3, 17); lay(0, 2, 0) NOTHING; lay(0, 2, 4) BAD; lay(0, 1, 0) BAD; lay(0, 4, 0) BAD; rest(0, 10) 7");
    }

    private static void layHolds() {
        t.edge(44, "what it held: 0 .. 3", "coil(1); step(0, 0, 0, 7); sheet(0, 0, 1); lay(0, 1, 0) 0; lay(0, 2, 0) 1; lay(0, 3, 0) 2; lay(0, 0, 0) 3; lay(0, 0, 0) 0; lay(0, 3, 1) 0; lay(0, 3, 2) 3; lay(0, 1, 0) 3; lay(0, 1, 0) 1; lay(0, 2, 0) 1; lay(0, 2, 0) 2");
        t.edge(44, "each SLOT by itself", "lay(0, 3, 10); lay(1, 3, 11); lay(2, 3, 12); lay(3, 3, 13); lay(4, 3, 14); rest(0, 99) 10; rest(1, 99) 11; rest(2, 99) 12; rest(3, 99) 13; rest(4, 99) 14; lay(2, 0, 0); rest(1, 99) 11; rest(3, 99) 13");
        t.edge(44, "a STEP as it is then, for good: it turns", "coil(1); step(1, 0, 0, 7); lay(0, 1, 0); turns(0, 2); ask(0, 1) 87; ask(0, 2) KIND");
        t.edge(44, "a STEP as it is then, for good: it goes", "coil(1); step(1, 0, 0, 7); step(2, 0, 0, 100); lay(0, 1, 0); drop(0); ask(0, 1) 87; drop(0); ask(0, 1) 87");
        t.edge(44, "a STEP as it is then, for good: behind back()", "coil(1); keep(); step(1, 0, 0, 7); lay(0, 1, 0); back(); count(2) 0; ask(0, 1) 87");
        t.edge(44, "a SHEET as it was then: it is marked", "sheet(0, 0, 2); mark(0, 0, 5); lay(0, 2, 0); mark(0, 0, 6); item(0, 0) 5; lay(1, 2, 0); item(1, 0) 6; item(0, 0) 5");
        t.edge(44, "a SHEET as it was then: it is MISSING, or anew", "sheet(0, 1, 2); mark(0, 0, NONE); mark(0, 1, 9); lay(0, 2, 0); sheet(0, -1, 0); item(0, 0) KIND; item(0, 1) 9; sheet(0, 0, 24); item(0, 1) 9; item(0, 2) INDEX");
        t.edge(44, "a SHEET as it was then: others come to it", "sheet(0, 0, 2); sheet(1, 0, 2); mark(1, 0, 8); lay(0, 2, 0); copy(1, 0, 0, 0, 2); item(0, 0) 0");
        t.edge(44, "a shorter row behind a longer one", "sheet(0, 0, 24); sheet(1, 0, 1); lay(0, 2, 0); item(0, 23) 0; lay(0, 2, 1) 2; item(0, 0) 0; item(0, 1) INDEX");
        t.edge(44, "the last of forty STEPS", "coil(1); 39 * step(0, 0, 0, 1); step(3, 0, 0, 9); lay(4, 1, 40) BAD; lay(4, 1, 39) 0; ask(4, 3) 178");
    }

    private static void ask() {
        t.edge(45, "BAD: a SLOT is 0 .. 4", "coil(1); step(0, 0, 0, 7); lay(0, 1, 0); lay(4, 1, 0); ask(-1, 0) BAD; ask(0, 0) 7; ask(4, 0) 7; ask(5, 0) BAD; ask(MIN, 0) BAD; ask(MAX, 0) BAD");
        t.edge(45, "BAD: KIND is 0 .. 5", "coil(1); step(5, 0, 0, 7); lay(0, 1, 0); ask(0, -1) BAD; ask(0, 0) 0; ask(0, 5) 0; ask(0, 6) BAD; ask(0, MIN) BAD; ask(0, MAX) BAD");
        t.edge(45, "NOTHING: it holds nothing", "ask(0, 0) NOTHING; lay(0, 3, 5); lay(0, 0, 0); ask(0, 0) NOTHING; ask(4, 5) NOTHING");
        t.edge(45, "BAD stands ahead of NOTHING and KIND", "ask(5, 0) BAD; ask(0, 6) BAD; ask(0, -1) BAD; lay(0, 3, 5); ask(0, 6) BAD");
        t.edge(45, "KIND: it is no STEP", "lay(0, 3, 5); ask(0, 0) KIND; sheet(0, 0, 1); lay(0, 2, 0); ask(0, 0) KIND; sheet(0, 1, 1); lay(0, 2, 0); ask(0, 5) KIND");
        t.edge(45, "by WANTED as it is now", "coil(1); step(1, 0, 0, 7); lay(0, 1, 0); ask(0, 1) 87; set(0, 1); ask(0, 1) 8; set(0, 999); ask(0, 0) 1006; keep(); set(0, 5); ask(0, 1) 12; back(); ask(0, 1) 1006");
    }

    private static void askByKind() {
        int[] worth = {81, 161, 40, 322, 39, 0};
        int[][] of = {{0}, {0, 1}, {0, 2}, {0, 1, 3}, {0, 2, 4}, {0, 5}};
        for (int kind = 0; kind < 6; kind++) {
            StringBuilder script = new StringBuilder("coil(1); step(" + kind + ", 0, 0, -81); lay(0, 1, 0)");
            for (int asked = 0; asked < 6; asked++) {
                boolean is = false;
                for (int one : of[kind]) {
                    is |= one == asked;
                }
                script.append("; ask(0, ").append(asked).append(") ").append(is ? "" + worth[kind] : "KIND");
            }
            t.edge(45, "of KIND " + kind + ", or not of that KIND, nor of one under it", script.toString());
        }
        t.edge(45, "the least WORTH", "coil(1); step(4, 0, 0, 0); lay(0, 1, 0); ask(0, 0) -1; ask(0, 2) -1; ask(0, 4) -1");
    }

    private static void item() {
        t.edge(46, "BAD: a SLOT is 0 .. 4", "sheet(0, 0, 1); lay(0, 2, 0); lay(4, 2, 0); item(-1, 0) BAD; item(0, 0) 0; item(4, 0) 0; item(5, 0) BAD; item(MIN, 0) BAD; item(MAX, 0) BAD");
        t.edge(46, "NOTHING: it holds nothing", "item(0, 0) NOTHING; item(4, -1) NOTHING; lay(0, 3, 1); lay(0, 0, 0); item(0, 0) NOTHING");
        t.edge(46, "KIND: it is no SHEET", "coil(1); step(0, 0, 0, 7); lay(0, 1, 0); item(0, 0) KIND; lay(0, 3, 7); item(0, 0) KIND");
        t.edge(46, "INDEX: there is no such place", "sheet(0, 0, 3); mark(0, 0, 1); mark(0, 2, 3); lay(0, 2, 0); item(0, -1) INDEX; item(0, 0) 1; item(0, 2) 3; item(0, 3) INDEX; item(0, MIN) INDEX; item(0, MAX) INDEX");
        t.edge(46, "INDEX: of no place, and of 24", "sheet(0, 0, 0); lay(0, 2, 0); item(0, 0) INDEX; sheet(0, 0, 24); lay(0, 2, 0); item(0, 23) 0; item(0, 24) INDEX");
        t.edge(46, "KIND: NO NUMBER", "sheet(0, 1, 2); mark(0, 1, NONE); lay(0, 2, 0); item(0, 0) 0; item(0, 1) KIND; item(0, 2) INDEX");
        t.edge(46, "BAD stands ahead of NOTHING", "item(5, 0) BAD; item(-1, 99) BAD");
        t.edge(46, "KIND of a thing stands ahead of INDEX", "lay(0, 3, 7); item(0, -1) KIND; item(0, 99) KIND");
        t.edge(46, "the greatest and the least", "sheet(0, 0, 2); mark(0, 0, 32767); mark(0, 1, -32768); lay(0, 2, 0); item(0, 0) 32767; item(0, 1) -32768; sheet(0, 1, 2); mark(0, 0, 99999); mark(0, 1, -99999); lay(0, 2, 0); item(0, 0) 99999; item(0, 1) -99999");
    }

    private static void rest() {
        t.edge(47, "BAD: a SLOT is 0 .. 4", "lay(0, 3, 17); lay(4, 3, 18); rest(-1, 5) BAD; rest(0, 5) 2; rest(4, 5) 3; rest(5, 5) BAD; rest(MIN, 5) BAD; rest(MAX, 5) BAD");
        t.edge(47, "NOTHING: it holds nothing", "rest(0, 5) NOTHING; rest(4, 5) NOTHING; lay(0, 3, 1); lay(0, 0, 1); rest(0, 5) NOTHING");
        t.edge(47, "KIND: it is no number", "coil(1); step(0, 0, 0, 7); lay(0, 1, 0); rest(0, 5) KIND; sheet(0, 0, 1); lay(0, 2, 0); rest(0, 5) KIND");
        t.edge(47, "NO: n is 0", "lay(0, 3, 17); rest(0, 0) NO; rest(0, 1) 0; rest(0, -1) 0; lay(0, 3, 0); rest(0, 0) NO");
        t.edge(47, "BAD, NOTHING, KIND stand ahead of NO", "rest(5, 0) BAD; rest(-1, 0) BAD; rest(0, 0) NOTHING; sheet(0, 0, 1); lay(0, 2, 0); rest(0, 0) KIND");
        t.edge(47, "/ cuts towards 0: the rest has the number's sign", "lay(0, 3, 17); rest(0, 5) 2; rest(0, -5) 2; lay(0, 3, -17); rest(0, 5) -2; rest(0, -5) -2");
        t.edge(47, "the least int", "lay(0, 3, MIN); rest(0, -1) 0; rest(0, 1) 0; rest(0, MIN) 0; rest(0, MAX) -1; rest(0, 10) -8; lay(0, 3, MAX); rest(0, MIN) MAX; rest(0, MAX) 0; rest(0, -1) 0");
        t.edge(47, "by more than the number", "lay(0, 3, 7); rest(0, 8) 7; rest(0, 7) 0; rest(0, 6) 1; rest(0, MAX) 7; lay(0, 3, 0); rest(0, 9) 0");
    }
}
