/** The edges of promises 1 to 9, sentence by sentence. */
public final class CoilsEdgesTest {
    private static final Edges t = new Edges();

    public static void main(String[] args) {
        newObject();
        coil();
        coilTold();
        creep();
        pair();
        part();
        watch();
        seen();
        line();
        t.end(1, 9);
    }

    private static void newObject() {
        t.edge(1, "no COILS, and none of anything else", """
            count(0) 0; count(1) 0; count(2) 0; count(3) 0; count(4) 0; count(5) 0; count(6) 0; count(7) 0
            """);
        t.edge(1, "DAY is 0 at first", "count(9) 0; keep() 0");
        t.edge(1, "BELIEF is 5000 at first", "count(8) 5000; set(2, 0) 5000");
        t.edge(1, "z is 1 at first", "count(12) 1; seed(0) 1");
        t.edge(1, "WANTED is 80 at first", "set(0, 1) 80");
        t.edge(1, "PEN is 4 at first", "set(1, 0) 4");
        t.edge(1, "THE WORLD is 0 at first", "set(3, 1) 0");
        t.edge(1, "no number waits, THE TAPE is empty", "count(10) 0; count(11) 0; text() FAULT 0");
        t.edge(1, "each SHEET is MISSING at first", """
            mark(0, 0, 0) NOTHING; mark(1, 0, 0) NOTHING; mark(2, 0, 0) NOTHING; mark(3, 0, 0) NOTHING
            """);
        t.edge(1, "each SLOT holds nothing at first", """
            rest(0, 1) NOTHING; rest(1, 1) NOTHING; rest(2, 1) NOTHING; rest(3, 1) NOTHING; rest(4, 1) NOTHING
            lay(0, 0, 0) 0; lay(1, 0, 0) 0; lay(2, 0, 0) 0; lay(3, 0, 0) 0; lay(4, 0, 0) 0
            """);
        t.edge(1, "no IMAGE at first", "back() NO; check(1) NO");
        t.edge(1, "no TEXT counts at first", "why(0) NONE; why(1) NONE; why(2) NONE; news(0, 0) 0; news(0, 1) 1; beyond() NONE");
        t.edge(1, "nothing is seen, fits, is had or bought", """
            seen(0) 0; seen(1999) 0; fit() 0; chance() 0; keys(0) 0; jokes() 0; clear() 0; best(9999, 0) 0
            """);
        twoObjects();
    }

    private static void twoObjects() {
        FluxWatch one = new FluxWatch();
        FluxWatch other = new FluxWatch();
        one.coil(3);
        one.seed(7);
        one.set(0, 9);
        t.due(1, "another object has no COIL", other.count(0), 0);
        t.due(1, "another object has its own z", other.count(12), 1);
        t.due(1, "another object has its own WANTED", other.set(0, 80), 80);
    }

    private static void coil() {
        t.edge(2, "SIZE is 1 at the least", "coil(1) 0; coil(0) BAD; coil(-1) BAD; coil(MIN) BAD; count(0) 1; coilTold(0, 0) 1");
        t.edge(2, "SIZE is 9 at the most", "coil(9) 0; coil(10) BAD; coil(MAX) BAD; count(0) 1; coilTold(0, 0) 9");
        t.edge(2, "its number, from 0 on", "6 * coil(5) 0..");
        t.edge(2, "FULL: 6 at most", "5 * coil(5); coil(5) 5; coil(5) FULL; count(0) 6; coil(1) FULL; coil(9) FULL");
        t.edge(2, "BAD stands ahead of FULL", "6 * coil(5); coil(0) BAD; coil(10) BAD");
        t.edge(2, "a COIL that is refused has no number", "coil(0) BAD; coil(5) 0; coil(10) BAD; coil(6) 1; coilTold(1, 0) 6");
        t.edge(2, "a new COIL has no CREEP, no PAIR, no WATCH, no STEP", """
            coil(7); coilTold(0, 1) 0; coilTold(0, 2) NONE; coilTold(0, 3) 0; coilTold(0, 4) 0
            """);
        t.edge(2, "a COIL that comes again behind back() is new", """
            coil(7); keep(); coil(8); creep(1, 5); pair(0, 1); back() 0
            coil(2) 1; coilTold(1, 0) 2; coilTold(1, 1) 0; coilTold(1, 2) NONE; coilTold(0, 2) NONE
            """);
    }

    private static void coilTold() {
        t.edge(3, "BAD: there is no such COIL", """
            coilTold(0, 0) BAD; coil(4); coilTold(0, 0) 4; coilTold(1, 0) BAD; coilTold(-1, 0) BAD
            coilTold(MAX, 0) BAD; coilTold(MIN, 0) BAD
            """);
        t.edge(3, "BAD: six COILS are 0 .. 5", "6 * coil(3); coilTold(5, 0) 3; coilTold(6, 0) BAD");
        t.edge(3, "BAD: what is 0 .. 4", """
            coil(4); coilTold(0, -1) BAD; coilTold(0, 0) 4; coilTold(0, 4) 0; coilTold(0, 5) BAD
            coilTold(0, MAX) BAD; coilTold(0, MIN) BAD
            """);
        t.edge(3, "NONE: in no PAIR; else with which", """
            coil(1); coil(1); coil(1); coilTold(0, 2) NONE; pair(0, 2)
            coilTold(0, 2) 2; coilTold(2, 2) 0; coilTold(1, 2) NONE; part(2); coilTold(0, 2) NONE; coilTold(2, 2) NONE
            """);
        t.edge(3, "WATCHED today: from the first DAY of a WATCH to its last", """
            coil(1); coil(1); watch(0, 1, 2); coilTold(0, 3) 0; run(1); coilTold(0, 3) 1; coilTold(1, 3) 0
            run(1); coilTold(0, 3) 1; run(1); coilTold(0, 3) 0
            """);
        t.edge(3, "WATCHED today, on day 1999", "coil(1); watch(0, 1999, 1999); 33 * run(60); run(18); coilTold(0, 3) 0; run(1); coilTold(0, 3) 1");
        t.edge(3, "WATCHED twice is 1", "coil(1); watch(0, 0, 0); watch(0, 0, 5); coilTold(0, 3) 1");
        t.edge(3, "how many STEPS: those of that COIL, none to forty", """
            coil(1); coil(1); coilTold(0, 4) 0; 39 * step(4, 0, 0, 0); step(0, 1, 0, 1)
            coilTold(0, 4) 39; coilTold(1, 4) 1; drop(39); coilTold(1, 4) 0; step(0, 0, 0, 1); coilTold(0, 4) 40
            """);
    }

    private static void creep() {
        t.edge(4, "CREEP is -9 at the least", "coil(1); creep(0, -9) 0; creep(0, -10) BAD; creep(0, MIN) BAD; coilTold(0, 1) -9");
        t.edge(4, "CREEP is 9 at the most", "coil(1); creep(0, 9) 0; creep(0, 10) BAD; creep(0, MAX) BAD; coilTold(0, 1) 9");
        t.edge(4, "what it was", "coil(1); creep(0, 3) 0; creep(0, -4) 3; creep(0, -4) -4; creep(0, 0) -4; creep(0, 1) 0");
        t.edge(4, "BAD: there is no such COIL", "creep(0, 1) BAD; coil(1); creep(1, 1) BAD; creep(-1, 1) BAD; creep(MAX, 1) BAD; creep(MIN, 1) BAD; creep(0, 1) 0");
        t.edge(4, "each COIL has its own", "coil(1); coil(1); creep(1, 5) 0; coilTold(0, 1) 0; coilTold(1, 1) 5");
    }

    private static void pair() {
        t.edge(5, "two unlike COILS", "coil(1); coil(1); pair(0, 0) BAD; pair(1, 1) BAD; pair(0, 1) 1; count(7) 1");
        t.edge(5, "BAD: there is no such COIL", """
            pair(0, 1) BAD; coil(1); coil(1); pair(0, 2) BAD; pair(2, 0) BAD; pair(-1, 0) BAD; pair(0, -1) BAD
            pair(MIN, 0) BAD; pair(0, MAX) BAD; pair(2, 3) BAD; count(7) 0
            """);
        t.edge(5, "NO: the first is in a PAIR", "3 * coil(1); pair(0, 1); pair(0, 2) NO; pair(1, 2) NO; coilTold(2, 2) NONE");
        t.edge(5, "NO: the other is in a PAIR", "3 * coil(1); pair(0, 1); pair(2, 0) NO; pair(2, 1) NO; coilTold(2, 2) NONE");
        t.edge(5, "NO: both are, with one another or not", "4 * coil(1); pair(0, 1); pair(2, 3); pair(0, 1) NO; pair(1, 0) NO; pair(1, 2) NO; count(7) 2");
        t.edge(5, "BAD stands ahead of NO", "2 * coil(1); pair(0, 1); pair(0, 0) BAD; pair(0, 2) BAD; pair(2, 1) BAD; pair(-1, 1) BAD");
        t.edge(5, "three PAIRS of six, either way round", """
            6 * coil(1); pair(5, 0) 1; pair(1, 4) 1; pair(3, 2) 1; count(7) 3
            coilTold(0, 2) 5; coilTold(5, 2) 0; coilTold(1, 2) 4; coilTold(4, 2) 1; coilTold(2, 2) 3; coilTold(3, 2) 2
            """);
        t.edge(5, "those that are parted can be a PAIR again", "3 * coil(1); pair(0, 1); part(1); pair(1, 2) 1; pair(0, 1) NO; coilTold(0, 2) NONE");
    }

    private static void part() {
        t.edge(6, "BAD: there is no such COIL", "part(0) BAD; coil(1); coil(1); pair(0, 1); part(2) BAD; part(-1) BAD; part(MAX) BAD; part(MIN) BAD; count(7) 1");
        t.edge(6, "NO: it is in none", "coil(1); part(0) NO; coil(1); coil(1); pair(0, 1); part(2) NO; count(7) 1");
        t.edge(6, "with which it was, told of either one", "3 * coil(1); pair(0, 2); part(0) 2; pair(0, 2); part(2) 0");
        t.edge(6, "nor is the other one", "3 * coil(1); pair(0, 2); part(0) 2; part(2) NO; part(0) NO; coilTold(2, 2) NONE; count(7) 0");
        t.edge(6, "another PAIR stays", "4 * coil(1); pair(0, 2); pair(1, 3); part(2) 0; coilTold(1, 2) 3; coilTold(3, 2) 1; count(7) 1");
    }

    private static void watch() {
        t.edge(7, "from 0 on", "coil(1); watch(0, 0, 5) 0; watch(0, -1, 5) BAD; watch(0, MIN, 5) BAD; count(1) 1; seen(0) 1");
        t.edge(7, "to 1999", "coil(1); watch(0, 5, 1999) 0; watch(0, 5, 2000) BAD; watch(0, 5, MAX) BAD; count(1) 1; seen(1999) 1");
        t.edge(7, "from 1999, no later", "coil(1); watch(0, 1999, 1999) 0; watch(0, 2000, 2000) BAD; watch(0, 2000, 1999) BAD; count(1) 1");
        t.edge(7, "to 0, no sooner", "coil(1); watch(0, 0, 0) 0; watch(0, -1, -1) BAD; watch(0, 0, -1) BAD; watch(0, -1, 0) BAD; count(1) 1");
        t.edge(7, "to is not below from", "coil(1); watch(0, 7, 7) 0; watch(0, 7, 6) BAD; watch(0, 1999, 0) BAD; seen(6) 0; seen(7) 1; seen(8) 0");
        t.edge(7, "BAD: there is no such COIL", "watch(0, 0, 5) BAD; coil(1); watch(1, 0, 5) BAD; watch(-1, 0, 5) BAD; watch(MAX, 0, 5) BAD; watch(MIN, 0, 5) BAD; watch(0, 0, 5) 0");
        t.edge(7, "FULL: 20 at most", "coil(1); 20 * watch(0, 3, 4) 0..; watch(0, 3, 4) FULL; watch(0, 9, 9) FULL; count(1) 20; seen(9) 0");
        t.edge(7, "BAD stands ahead of FULL", "coil(1); 20 * watch(0, 3, 4); watch(1, 3, 4) BAD; watch(0, 4, 3) BAD; watch(0, -1, 3) BAD; watch(0, 0, 2000) BAD");
        t.edge(7, "the twentieth counts", "coil(4); coil(5); 19 * watch(0, 3, 4); watch(1, 8, 9) 19; seen(8) 5; seen(9) 5; seen(10) 0");
        t.edge(7, "DAYS that are gone can be WATCHED", "coil(3); run(9); watch(0, 1, 2) 0; seen(1) 3");
    }

    private static void seen() {
        t.edge(8, "BAD: a DAY is 0 .. 1999", """
            coil(6); watch(0, 0, 1999); seen(-1) BAD; seen(0) 6; seen(1999) 6; seen(2000) BAD; seen(MIN) BAD; seen(MAX) BAD
            """);
        t.edge(8, "on both ends of a WATCH, not ahead of it, not behind it", "coil(6); watch(0, 3, 5); seen(2) 0; seen(3) 6; seen(4) 6; seen(5) 6; seen(6) 0");
        t.edge(8, "each COIL once", "coil(6); coil(2); watch(0, 3, 5); watch(0, 5, 8); watch(1, 5, 5); seen(4) 6; seen(5) 8; seen(6) 6; seen(8) 6; seen(9) 0");
        t.edge(8, "all COILS together", "6 * coil(9); watch(0, 1, 1); watch(1, 1, 1); watch(2, 1, 1); watch(3, 1, 1); watch(4, 1, 1); watch(5, 1, 1); seen(1) 54; seen(0) 0");
        t.edge(8, "0: none is WATCHED", "coil(9); seen(0) 0; seen(1999) 0");
    }

    private static void line() {
        t.edge(9, "BAD: a DAY is 0 .. 1999", "coil(1); creep(0, 1); line(0, -1) BAD; line(0, 0) 0; line(0, 1999) 1999; line(0, 2000) BAD; line(0, MIN) BAD; line(0, MAX) BAD");
        t.edge(9, "BAD: there is no such COIL", "line(0, 0) BAD; coil(1); line(0, 0) 0; line(1, 0) BAD; line(-1, 0) BAD; line(MAX, 0) BAD; line(MIN, 0) BAD");
        t.edge(9, "CREEP times DAY, up and down", "coil(1); creep(0, 9); line(0, 1999) 17991; creep(0, -9); line(0, 1999) -17991; line(0, 1) -9; line(0, 0) 0");
        t.edge(9, "STEPS of that DAY, or ahead of it, none behind it", """
            coil(1); run(5); step(0, 0, 3, 100); line(0, 2) 0; line(0, 3) 100; line(0, 4) 100; line(0, 1999) 100
            """);
        t.edge(9, "STEPS of that COIL alone, of each KIND", """
            coil(1); coil(1); step(0, 0, 0, 1); step(1, 0, 0, 2); step(2, 0, 0, 4); step(3, 0, 0, 8); step(4, 0, 0, 16); step(5, 0, 0, 32)
            line(0, 0) 63; line(1, 0) 0
            """);
        t.edge(9, "HEIGHT as it is, below 0 too", "coil(1); step(0, 0, 0, -999); line(0, 0) -999; step(0, 0, 0, 999); line(0, 0) 0");
        t.edge(9, "forty STEPS of the greatest HEIGHT and the greatest CREEP", "coil(1); 40 * step(0, 0, 0, 999); creep(0, 9); line(0, 1999) 57951; line(0, 0) 39960");
        t.edge(9, "a STEP that goes leaves the LINE", "coil(1); step(0, 0, 0, 5); step(0, 0, 0, 6); drop(0); line(0, 0) 6");
    }
}
