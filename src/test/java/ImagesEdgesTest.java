/** The edges of promises 48 to 52, sentence by sentence. */
public final class ImagesEdgesTest {
    private static final Edges t = new Edges();
    /** BELIEF behind each of thirty days from a new object on: nothing is seen, nothing comes. */
    private static final int[] QUIET = quiet();

    public static void main(String[] args) {
        tell();
        checkRefused();
        checkNone();
        checkFirstThatIsNot();
        checkTooMany();
        checkPlays();
        keep();
        back();
        backKeeps();
        backLeaves();
        count();
        countOfAll();
        t.end(48, 52);
    }

    private static int[] quiet() {
        int[] told = new int[30];
        long belief = 5000;
        for (int i = 0; i < told.length; i++) {
            belief = 10000 * belief * 1000 / (belief * 1000 + (10000 - belief) * 999);
            told[i] = (int) belief;
        }
        return told;
    }

    /** So many numbers of the quiet days are told. */
    private static String quietTold(int numbers) {
        StringBuilder script = new StringBuilder();
        for (int i = 0; i < numbers; i++) {
            script.append("tell(").append(i % 2 == 0 ? QUIET[i / 2] : 0).append("); ");
        }
        return script.toString();
    }

    private static void tell() {
        t.edge(48, "how many: any int waits", "tell(MIN) 1; tell(MAX) 2; tell(0) 3; tell(NONE) 4; count(10) 4");
        t.edge(48, "FULL: 60 wait", "60 * tell(5) 1..; tell(5) FULL; tell(0) FULL; count(10) 60");
        t.edge(48, "behind check there is room again", "60 * tell(5); check(1) NO; tell(5) 1; count(10) 1");
    }

    private static void checkRefused() {
        t.edge(49, "BAD: n is 1 .. 30", "keep(); check(0) BAD; check(-1) BAD; check(31) BAD; check(MIN) BAD; check(MAX) BAD; check(1) 1; check(30) 1");
        t.edge(49, "NO: there is no IMAGE", "check(1) NO; check(30) NO; tell(5002); tell(0); check(1) NO");
        t.edge(49, "BAD stands ahead of NO", "check(0) BAD; check(31) BAD; check(1) NO");
        t.edge(49, "none wait then: BAD", "tell(1); check(0) BAD; count(10) 0; keep(); tell(1); tell(2); check(31) BAD; count(10) 0");
        t.edge(49, "none wait then: NO", "tell(1); tell(2); check(1) NO; count(10) 0; keep(); check(1) 1");
        t.edge(49, "none wait then: they are the days, or not", "keep(); tell(5002); tell(0); check(1) 0; count(10) 0; tell(5002); tell(1); check(1) 2; count(10) 0; check(1) 1");
    }

    private static void checkNone() {
        t.edge(49, "one DAY", "keep(); tell(5002); tell(0); check(1) 0");
        t.edge(49, "two by two", "keep(); tell(5002); tell(0); tell(5004); tell(0); check(2) 0");
        t.edge(49, "thirty DAYS", "keep(); " + quietTold(60) + "check(30) 0; count(10) 0");
        t.edge(49, "BELIEF stands ahead of STEPS", "keep(); tell(0); tell(5002); check(1) 1");
        t.edge(49, "how many STEPS there are, with those ahead of the days", "coil(1); 40 * step(4, 0, 0, 0); keep(); tell(5002); tell(40); check(1) 0");
        t.edge(49, "numbers that waited once are gone", "keep(); " + quietTold(4) + "check(2) 0; tell(5002); tell(0); check(2) 3; tell(5002); check(1) 2; check(1) 1");
        t.edge(49, "again and again", "keep(); tell(5002); tell(0); check(1) 0; tell(5002); tell(0); check(1) 0");
    }

    private static void checkFirstThatIsNot() {
        t.edge(49, "the first is missing", "keep(); check(1) 1; check(30) 1");
        t.edge(49, "the second is missing", "keep(); tell(5002); check(1) 2");
        t.edge(49, "the third is missing", "keep(); tell(5002); tell(0); check(2) 3");
        t.edge(49, "the last of sixty is missing", "keep(); " + quietTold(59) + "check(30) 60");
        t.edge(49, "the first is not", "keep(); tell(5003); tell(0); check(1) 1; tell(5001); tell(0); check(1) 1");
        t.edge(49, "the second is not", "keep(); tell(5002); tell(1); check(1) 2; tell(5002); tell(-1); check(1) 2");
        t.edge(49, "the third is not", "keep(); tell(5002); tell(0); tell(5003); tell(0); check(2) 3");
        t.edge(49, "the fourth is not", "keep(); tell(5002); tell(0); tell(5004); tell(1); check(2) 4");
        t.edge(49, "the last of sixty is not", "keep(); " + quietTold(59) + "tell(1); check(30) 60");
        t.edge(49, "the last but one of sixty is not", "keep(); " + quietTold(58) + "tell(1); tell(0); check(30) 59");
        t.edge(49, "of several the first", "keep(); tell(5002); tell(7); tell(7); tell(7); check(2) 2");
        t.edge(49, "one that is not stands ahead of one that is missing", "keep(); tell(7); check(1) 1; tell(5002); tell(7); check(2) 2");
    }

    private static void checkTooMany() {
        t.edge(49, "one too many", "keep(); tell(5002); tell(0); tell(5004); check(1) 3");
        t.edge(49, "more too many", "keep(); tell(5002); tell(0); tell(5004); tell(0); tell(7); check(1) 3");
        t.edge(49, "sixty are two too many of 29 DAYS", "keep(); " + quietTold(60) + "check(29) 59");
        t.edge(49, "one that is not stands ahead of one too many", "keep(); tell(5002); tell(1); tell(5004); check(1) 2");
    }

    private static void checkPlays() {
        t.edge(49, "from THE IMAGE on, not from today", "keep(); run(5); set(2, 77); coil(1); step(0, 0, 0, 1); tell(5002); tell(0); check(1) 0; count(9) 5; count(8) 77; count(2) 1");
        t.edge(49, "THE IMAGE that was kept last", "keep(); set(2, 10000); keep(); tell(5002); check(1) 1; tell(10000); tell(0); check(1) 0");
        int rests = Draws.seed(1000, 3, 1000, 999);
        t.edge(49, "DAYS that go by draw, as run does", "coil(5); watch(0, 0, 0); set(3, 1); 'rate 5' 0; seed(" + rests + "); keep(); tell(8333); tell(1); check(1) 0; count(12) " + rests + "; count(2) 0; run(1) 8333; count(2) 1");
        t.edge(49, "THE IMAGE stays as it is", "coil(5); watch(0, 0, 0); set(3, 1); 'rate 5' 0; seed(" + rests + "); keep(); check(30) 1; back(); count(12) " + rests + "; count(2) 0; run(1) 8333");
        int knocked = Draws.seed(1000, 0);
        t.edge(49, "by THE IMAGE'S WATCHES", "coil(1); coil(5); watch(1, 1, 1); keep(); watch(0, 0, 9); tell(5002); tell(0); tell(4991); tell(0); tell(4993); tell(0); check(3) 0");
        t.edge(49, "by THE IMAGE'S KNOCKS", "coil(5); watch(0, 0, 0); knock(80); seed(" + knocked + "); keep(); tell(8333); tell(1); check(1) 0");
        t.edge(49, "by THE IMAGE'S STEPS and PAIRS", "coil(5); coil(5); watch(0, 0, 0); pair(0, 1); step(4, 1, 0, 0); step(3, 0, 0, 80); keep(); part(0); tell(8333); tell(2); check(1) 0");
        t.edge(49, "by THE IMAGE'S WANTED and PEN", "coil(5); watch(0, 0, 0); set(0, 90); set(1, 9); step(0, 0, 0, 99); step(0, 0, 0, 100); keep(); set(0, 80); set(1, 4); tell(8333); tell(2); check(1) 0");
        t.edge(49, "by THE IMAGE'S TEXTS", "'rate 999' 0; 'knock 0' 1; keep(); 'rate 0' 2; tell(9); tell(0); check(1) 0");
        t.edge(49, "DAYS go beyond 1999, too", "33 * run(60); run(19); set(2, 5000); 'rate (d=2028)*500' 0; 'knock 0' 1; keep(); run(1) FULL; " + "tell(5000); tell(0); ".repeat(29) + "tell(3333); tell(0); check(30) 0; count(9) 1999");
        t.edge(49, "no COIL is WATCHED beyond 1999", "coil(9); watch(0, 1999, 1999); 33 * run(60); run(19); set(2, 5000); 'rate s*50' 0; 'knock 0' 1; keep(); tell(3548); tell(0); tell(3548); tell(0); check(2) 0");
    }

    private static void keep() {
        t.edge(50, "the DAY", "keep() 0; run(7); keep() 7; 33 * run(59); run(45); keep() 1999");
        t.edge(50, "the one that is kept last", "keep() 0; run(7); keep() 7; run(1); back() 7; back() 7");
        t.edge(50, "all goes on as it was", "coil(3); watch(0, 0, 9); step(1, 0, 0, 80); seed(9); tell(5); keep() 0; count(0) 1; count(2) 1; count(12) 9; count(10) 1; run(1) 7500");
        t.edge(50, "AN IMAGE of an empty object, and of a full one", """
            keep() 0; 6 * coil(1); 20 * watch(0, 0, 9); 40 * step(4, 0, 0, 1); 60 * knock(1); 10 * key(0, 1); 8 * offer(1, 1); back() 0
            count(0) 0; count(1) 0; count(2) 0; count(4) 0; count(5) 0; count(6) 0; coil(2) 0; seen(0) 0
            """);
        t.edge(50, "of a full one", """
            6 * coil(1); 20 * watch(5, 0, 9); 40 * step(4, 0, 0, 1); 60 * knock(80); 10 * key(0, 1); 8 * offer(1, 1); keep() 0; drop(39); clear(); back() 0
            count(0) 6; count(1) 20; count(2) 40; count(4) 60; count(5) 10; count(6) 8; told(39, 0) 4; chance() 60; keys(1) 10; best(8, 1) 8; coil(1) FULL; step(0, 0, 0, 0) FULL
            """);
    }

    private static void back() {
        t.edge(51, "NO: there is none", "back() NO; run(3); back() NO; count(9) 3; keep(); back() 3");
        t.edge(51, "again and again", "keep(); run(3); back() 0; run(2); back() 0; back() 0; count(9) 0");
        t.edge(51, "days go by alike behind it", "coil(5); watch(0, 0, 9); set(3, 1); 'rate 400' 0; 'knock 400' 1; seed(77); run(1); keep(); " + alike());
        t.edge(51, "what comes behind it leaves THE IMAGE", "coil(1); step(1, 0, 0, 7); keep(); back(); turns(0, 2); creep(0, 5); set(0, 9); back(); told(0, 0) 1; coilTold(0, 1) 0; set(0, 80) 80");
    }

    /** The same nine days twice, told by their answers. */
    private static String alike() {
        FluxWatch x = new FluxWatch();
        for (Call call : Call.script("coil(5); watch(0, 0, 9); set(3, 1); 'rate 400' 0; 'knock 400' 1; seed(77); run(1)")) {
            call.on(x);
        }
        String days = "run(9) " + x.run(9) + "; count(2) " + x.count(2) + "; count(12) " + x.count(12) + "; told(" + (x.count(2) - 1) + ", 3) " + x.told(x.count(2) - 1, 3) + "; ";
        return days + "back() 1; " + days + "back() 1; " + days;
    }

    private static void backKeeps() {
        t.edge(51, "the DAY", "run(4); keep(); run(5); back() 4; count(9) 4; step(0, 0, 0, 0) BAD");
        t.edge(51, "BELIEF", "set(2, 123); keep(); set(2, 9); back(); count(8) 123");
        t.edge(51, "WANTED", "set(0, 123); keep(); set(0, 9); back(); set(0, 1) 123");
        t.edge(51, "PEN", "set(1, 12); keep(); set(1, 9); back(); set(1, 1) 12");
        t.edge(51, "THE WORLD", "set(3, 1); keep(); set(3, 0); back(); set(3, 0) 1; keep(); set(3, 1); back(); set(3, 1) 0");
        t.edge(51, "z", "seed(-7); keep(); seed(8); back(); count(12) -7");
        t.edge(51, "COILS, their SIZE", "coil(4); keep(); coil(5); back(); count(0) 1; coilTold(1, 0) BAD; coil(6) 1; coilTold(0, 0) 4; coilTold(1, 0) 6");
        t.edge(51, "CREEP", "coil(4); coil(4); creep(1, -9); keep(); creep(1, 9); creep(0, 1); back(); coilTold(1, 1) -9; coilTold(0, 1) 0");
        t.edge(51, "PAIRS that were", "4 * coil(4); pair(0, 3); keep(); part(0); pair(0, 1); back(); coilTold(0, 2) 3; coilTold(3, 2) 0; coilTold(1, 2) NONE; count(7) 1");
        t.edge(51, "PAIRS that were not", "2 * coil(4); keep(); pair(0, 1); back(); coilTold(0, 2) NONE; coilTold(1, 2) NONE; count(7) 0; pair(0, 1) 1");
        t.edge(51, "WATCHES", "coil(4); watch(0, 3, 5); keep(); watch(0, 0, 9); back(); count(1) 1; seen(2) 0; seen(3) 4; seen(5) 4; seen(6) 0");
        t.edge(51, "WATCHES that came instead", "2 * coil(4); keep(); watch(0, 0, 9); back(); watch(1, 2, 2) 0; keep(); back(); coilTold(0, 3) 0; seen(2) 4; seen(0) 0");
        t.edge(51, "STEPS", "2 * coil(4); run(1); step(3, 1, 1, -5); keep(); drop(0); step(0, 0, 0, 9); step(0, 0, 0, 9); back(); count(2) 1; told(0, 0) 3; told(0, 1) 1; told(0, 2) 1; told(0, 3) -5");
        t.edge(51, "TEXTS, and which counts", "'rate 5' 0; keep(); 'rate 6' 1; 'knock 7' 2; back(); count(3) 1; news(0, 0) 5; news(0, 1) 1; why(0) 0; why(1) NONE; textTold(1, 0) BAD; 'knock 8+1' 1; textTold(1, 1) 2; textTold(1, 0) 1");
        t.edge(51, "TEXTS that came instead", "keep(); 'rate 5' 0; back(); 'rate 6' 0; news(0, 0) 6; keep(); back(); news(0, 0) 6; why(0) 0");
        t.edge(51, "KNOCKS", "knock(80); keep(); knock(80); back(); count(4) 1; chance() 1; knock(1) 1; chance() 1");
        t.edge(51, "KEYS", "key(3, 4); keep(); key(3, 9); back(); count(5) 1; keys(3) 1; keys(5) 0; key(1, 1) 1");
        t.edge(51, "OFFERS that were", "offer(4, 5); offer(3, 6); keep(); clear(); offer(9, 1); back(); count(6) 2; best(9999, 1) 7; best(9999, 2) 11");
        t.edge(51, "OFFERS that were not", "keep(); offer(9, 1); back(); count(6) 0; best(9999, 1) 0; offer(1, 1) 0");
    }

    private static void backLeaves() {
        t.edge(51, "SHEETS", "sheet(0, 0, 2); mark(0, 0, 5); keep(); sheet(0, 1, 3); mark(0, 2, 70000); sheet(1, 0, 1); back(); lay(0, 2, 0); item(0, 2) 70000; mark(1, 0, 1) 1");
        t.edge(51, "SLOTS", "coil(1); step(1, 0, 0, 7); lay(0, 3, 5); keep(); lay(0, 1, 0); lay(1, 3, 8); back(); ask(0, 1) 87; rest(1, 9) 8");
        t.edge(51, "numbers that wait", "tell(1); keep(); tell(2); back(); count(10) 2; check(1) 1; count(10) 0; back(); count(10) 0");
        t.edge(51, "THE TAPE", "feed(1, 2, 3); keep(); feed(1, 2, 3); back(); count(11) 24; trim(0); back(); count(11) 0");
        t.edge(51, "THE TAPE, its bytes", "keep(); feed(0x72617465, 0x20352020, 0x20202020); back(); text() 0; news(0, 0) 5");
    }

    private static void count() {
        t.edge(52, "BAD: what is 0 .. 12", "count(-1) BAD; count(0) 0; count(12) 1; count(13) BAD; count(MIN) BAD; count(MAX) BAD");
        t.edge(52, "each of what", """
            6 * coil(1); pair(0, 1); pair(2, 3); 20 * watch(0, 0, 0); 19 * step(4, 0, 0, 0); 'rate 1'; 'rate 1'; 'rate 1'; 59 * knock(0); 9 * key(0, 0); 7 * offer(1, 1)
            set(2, 88); run(4); set(2, 77); 3 * tell(0); feed(0, 0, 0); trim(11); seed(-7)
            count(0) 6; count(1) 20; count(2) 19; count(3) 3; count(4) 59; count(5) 9; count(6) 7; count(7) 2; count(8) 77; count(9) 4; count(10) 3; count(11) 11; count(12) -7
            """);
    }

    private static void countOfAll() {
        t.edge(52, "PAIRS: none to three", "6 * coil(1); count(7) 0; pair(0, 5); count(7) 1; pair(1, 4); count(7) 2; pair(2, 3); count(7) 3; part(3); count(7) 2");
        t.edge(52, "BELIEF, the least and the greatest", "set(2, 0); count(8) 0; set(2, 10000); count(8) 10000");
        t.edge(52, "the DAY, the last", "33 * run(60); run(19); count(9) 1999; run(1) FULL; count(9) 1999");
        t.edge(52, "numbers that wait, bytes of THE TAPE: all", "60 * tell(0); 8 * feed(0, 0, 0); count(10) 60; count(11) 96");
        t.edge(52, "z is any int", "seed(MIN); count(12) MIN; seed(MAX); count(12) MAX; seed(0); count(12) 0");
        t.edge(52, "STEPS less those that went", "coil(1); 40 * step(4, 0, 0, 0); count(2) 40; drop(0); count(2) 39");
    }
}
