/** The edges of promises 10 to 16, sentence by sentence. */
public final class StepsEdgesTest {
    private static final Edges t = new Edges();

    public static void main(String[] args) {
        step();
        told();
        fitsByHeight();
        fitsAsPaired();
        fitsAsOtherKinds();
        worth();
        as();
        turns();
        drop();
        set();
        setStays();
        fit();
        t.end(10, 16);
    }

    private static void step() {
        t.edge(10, "KIND is 0 .. 5", """
            coil(1); step(-1, 0, 0, 7) BAD; step(0, 0, 0, 7) 0; step(5, 0, 0, 7) 1; step(6, 0, 0, 7) BAD
            step(MIN, 0, 0, 7) BAD; step(MAX, 0, 0, 7) BAD; count(2) 2; told(0, 0) 0; told(1, 0) 5
            """);
        t.edge(10, "BAD: there is no such COIL", """
            step(0, 0, 0, 7) BAD; coil(1); coil(1); step(0, -1, 0, 7) BAD; step(0, 1, 0, 7) 0; step(0, 2, 0, 7) BAD
            step(0, MIN, 0, 7) BAD; step(0, MAX, 0, 7) BAD; count(2) 1; told(0, 1) 1
            """);
        t.edge(10, "on a DAY up to the open one: day 0", "coil(1); step(0, 0, 0, 7) 0; step(0, 0, 1, 7) BAD; step(0, 0, -1, 7) BAD; step(0, 0, MIN, 7) BAD; step(0, 0, MAX, 7) BAD; count(2) 1");
        t.edge(10, "on a DAY up to the open one: day 3", "coil(1); run(3); step(0, 0, 0, 7) 0; step(0, 0, 3, 7) 1; step(0, 0, 4, 7) BAD; step(0, 0, -1, 7) BAD; told(1, 2) 3; count(2) 2");
        t.edge(10, "on a DAY up to the open one: day 1999", "coil(1); 33 * run(60); run(19); step(0, 0, 1999, 7) 0; step(0, 0, 2000, 7) BAD; told(0, 2) 1999");
        t.edge(10, "HEIGHT is 999 at the most", "coil(1); step(0, 0, 0, 999) 0; step(0, 0, 0, 1000) BAD; step(0, 0, 0, MAX) BAD; count(2) 1; told(0, 3) 999");
        t.edge(10, "HEIGHT is -999 at the least", "coil(1); step(0, 0, 0, -999) 0; step(0, 0, 0, -1000) BAD; step(0, 0, 0, MIN) BAD; count(2) 1; told(0, 3) -999");
        t.edge(10, "a HEIGHT of 0", "coil(1); step(0, 0, 0, 0) 0; told(0, 3) 0");
        t.edge(10, "FULL: 40 at most", "coil(1); 40 * step(0, 0, 0, 7) 0..; step(0, 0, 0, 7) FULL; step(5, 0, 0, -9) FULL; count(2) 40; told(39, 3) 7");
        t.edge(10, "BAD stands ahead of FULL", """
            coil(1); 40 * step(0, 0, 0, 7); step(6, 0, 0, 7) BAD; step(0, 1, 0, 7) BAD; step(0, 0, 1, 7) BAD; step(0, 0, 0, 1000) BAD
            """);
        t.edge(10, "behind a drop there is room again", "coil(1); 40 * step(0, 0, 0, 7); drop(0) 39; step(1, 0, 0, 8) 39; told(39, 3) 8; step(0, 0, 0, 7) FULL");
    }

    private static void told() {
        t.edge(11, "BAD: there is no such STEP", "told(0, 0) BAD; coil(1); step(2, 0, 0, 7); told(0, 0) 2; told(1, 0) BAD; told(-1, 0) BAD; told(MAX, 0) BAD; told(MIN, 0) BAD");
        t.edge(11, "BAD: forty STEPS are 0 .. 39", "coil(1); 40 * step(2, 0, 0, 7); told(39, 0) 2; told(40, 0) BAD");
        t.edge(11, "BAD: what is 0 .. 5", "coil(1); step(2, 0, 0, 7); told(0, -1) BAD; told(0, 0) 2; told(0, 5) 3; told(0, 6) BAD; told(0, MAX) BAD; told(0, MIN) BAD");
        t.edge(11, "each of what", "coil(1); coil(2); run(4); step(3, 1, 2, -77); told(0, 0) 3; told(0, 1) 1; told(0, 2) 2; told(0, 3) -77; told(0, 4) 0; told(0, 5) 314");
    }

    private static void fitsByHeight() {
        t.edge(11, "FITS: HEIGHT is WANTED less PEN, or more", "coil(1); step(0, 0, 0, 76); step(0, 0, 0, 75); told(0, 4) 1; told(1, 4) 0");
        t.edge(11, "FITS: HEIGHT is WANTED and PEN, or less", "coil(1); step(0, 0, 0, 84); step(0, 0, 0, 85); told(0, 4) 1; told(1, 4) 0");
        t.edge(11, "FITS: HEIGHT is taken for above 0", """
            coil(1); step(0, 0, 0, -76); step(0, 0, 0, -75); step(0, 0, 0, -84); step(0, 0, 0, -85)
            told(0, 4) 1; told(1, 4) 0; told(2, 4) 1; told(3, 4) 0
            """);
        t.edge(11, "FITS: a PEN of 0 leaves just WANTED", """
            coil(1); set(1, 0); step(0, 0, 0, 80); step(0, 0, 0, -80); step(0, 0, 0, 79); step(0, 0, 0, 81)
            told(0, 4) 1; told(1, 4) 1; told(2, 4) 0; told(3, 4) 0
            """);
        t.edge(11, "FITS: the widest PEN, the least WANTED", """
            coil(1); set(0, 1); set(1, 99); step(0, 0, 0, 0); step(0, 0, 0, 100); step(0, 0, 0, 101); step(0, 0, 0, -100); step(0, 0, 0, -101)
            told(0, 4) 1; told(1, 4) 1; told(2, 4) 0; told(3, 4) 1; told(4, 4) 0
            """);
        t.edge(11, "FITS: the greatest WANTED", """
            coil(1); set(0, 999); step(0, 0, 0, 999); step(0, 0, 0, 995); step(0, 0, 0, 994); step(0, 0, 0, -999)
            told(0, 4) 1; told(1, 4) 1; told(2, 4) 0; told(3, 4) 1
            """);
        t.edge(11, "FITS: a HEIGHT of 0, where PEN reaches it and where not", "coil(1); set(0, 4); step(0, 0, 0, 0); told(0, 4) 1; set(0, 5); told(0, 4) 0");
        t.edge(11, "FITS: JUST as STEP, at both ends", """
            coil(1); step(1, 0, 0, 75); step(1, 0, 0, 76); step(1, 0, 0, 84); step(1, 0, 0, 85)
            told(0, 4) 0; told(1, 4) 1; told(2, 4) 1; told(3, 4) 0
            """);
        t.edge(11, "FITS: JUST is above 0", """
            coil(1); set(0, 1); step(1, 0, 0, 1); step(1, 0, 0, 0); step(1, 0, 0, -1); step(0, 0, 0, 0); step(0, 0, 0, -1)
            told(0, 4) 1; told(1, 4) 0; told(2, 4) 0; told(3, 4) 1; told(4, 4) 1
            """);
    }

    private static void fitsAsPaired() {
        t.edge(11, "FITS: PAIRED as JUST, at both ends", """
            coil(1); coil(1); pair(0, 1); step(0, 1, 0, 0)
            step(3, 0, 0, 75); step(3, 0, 0, 76); step(3, 0, 0, 84); step(3, 0, 0, 85); step(3, 0, 0, -80)
            told(1, 4) 0; told(2, 4) 1; told(3, 4) 1; told(4, 4) 0; told(5, 4) 0
            """);
        t.edge(11, "FITS: PAIRED is above 0", "coil(1); coil(1); pair(0, 1); set(0, 1); step(0, 1, 0, 0); step(3, 0, 0, 1); step(3, 0, 0, 0); step(3, 0, 0, -1); told(1, 4) 1; told(2, 4) 0; told(3, 4) 0");
        t.edge(11, "FITS: PAIRED needs a PAIR", "coil(1); coil(1); step(3, 0, 0, 80); step(0, 1, 0, 80); told(0, 4) 0; pair(0, 1); told(0, 4) 1; part(1); told(0, 4) 0");
        t.edge(11, "FITS: PAIRED needs a STEP of the other one", "coil(1); coil(1); coil(1); pair(0, 1); step(3, 0, 0, 80); step(0, 0, 0, 80); step(0, 2, 0, 80); told(0, 4) 0; step(0, 1, 0, 80); told(0, 4) 1");
        t.edge(11, "FITS: PAIRED needs it on the same DAY", """
            coil(1); coil(1); pair(0, 1); run(2); step(3, 0, 1, 80); step(0, 1, 0, 80); step(0, 1, 2, 80)
            told(0, 4) 0; step(0, 1, 1, 80); told(0, 4) 1; drop(3); told(0, 4) 0
            """);
        t.edge(11, "FITS: that STEP is of any KIND and HEIGHT", """
            coil(1); coil(1); pair(0, 1); step(3, 0, 0, 80); step(4, 1, 0, 0)
            told(0, 4) 1; turns(1, 5); told(0, 4) 1; turns(1, 2); told(0, 4) 1; turns(1, 3); told(0, 4) 1; told(1, 4) 0
            """);
        t.edge(11, "FITS: two PAIRED STEPS of a PAIR both do", "coil(1); coil(1); pair(1, 0); step(3, 0, 0, 80); step(3, 1, 0, 80); told(0, 4) 1; told(1, 4) 1");
    }

    private static void fitsAsOtherKinds() {
        t.edge(11, "FITS: KNOCKED as STEP", """
            coil(1); step(2, 0, 0, 75); step(2, 0, 0, 76); step(2, 0, 0, 84); step(2, 0, 0, 85); step(2, 0, 0, -84); step(2, 0, 0, -85)
            told(0, 4) 0; told(1, 4) 1; told(2, 4) 1; told(3, 4) 0; told(4, 4) 1; told(5, 4) 0
            """);
        t.edge(11, "FITS: PLAYED: no", "coil(1); step(4, 0, 0, 80); step(4, 0, 0, -80); step(4, 0, 0, 0); told(0, 4) 0; told(1, 4) 0; told(2, 4) 0");
        t.edge(11, "FITS: UNSEEN as STEP", """
            coil(1); step(5, 0, 0, 75); step(5, 0, 0, 76); step(5, 0, 0, 84); step(5, 0, 0, 85); step(5, 0, 0, -76); step(5, 0, 0, -75)
            told(0, 4) 0; told(1, 4) 1; told(2, 4) 1; told(3, 4) 0; told(4, 4) 1; told(5, 4) 0
            """);
        t.edge(11, "FITS: UNSEEN: its COIL is not WATCHED on its DAY", """
            coil(1); coil(1); run(5); watch(0, 2, 3)
            step(5, 0, 1, 80); step(5, 0, 2, 80); step(5, 0, 3, 80); step(5, 0, 4, 80); step(5, 1, 2, 80)
            told(0, 4) 1; told(1, 4) 0; told(2, 4) 0; told(3, 4) 1; told(4, 4) 1
            """);
        t.edge(11, "FITS: the others do, WATCHED or not", """
            coil(1); coil(1); pair(0, 1); watch(0, 0, 0); step(0, 0, 0, 80); step(1, 0, 0, 80); step(2, 0, 0, 80); step(3, 0, 0, 80); step(0, 1, 0, 1)
            told(0, 4) 1; told(1, 4) 1; told(2, 4) 1; told(3, 4) 1
            """);
    }

    private static void worth() {
        t.edge(11, "WORTH: STEP: HEIGHT, taken for above 0", "coil(1); step(0, 0, 0, 999); step(0, 0, 0, -999); step(0, 0, 0, 0); told(0, 5) 999; told(1, 5) 999; told(2, 5) 0");
        t.edge(11, "WORTH: JUST: as STEP, and WANTED", "coil(1); step(1, 0, 0, 999); step(1, 0, 0, -999); step(1, 0, 0, 0); told(0, 5) 1079; told(1, 5) 1079; told(2, 5) 80; set(0, 999); told(0, 5) 1998");
        t.edge(11, "WORTH: PAIRED: twice as JUST", "coil(1); step(3, 0, 0, 999); step(3, 0, 0, -1); step(3, 0, 0, 0); told(0, 5) 2158; told(1, 5) 162; told(2, 5) 160; set(0, 1); told(2, 5) 2");
        t.edge(11, "WORTH: KNOCKED: half (cut) of as STEP", """
            coil(1); step(2, 0, 0, 999); step(2, 0, 0, -999); step(2, 0, 0, 1); step(2, 0, 0, -1); step(2, 0, 0, 2); step(2, 0, 0, 0)
            told(0, 5) 499; told(1, 5) 499; told(2, 5) 0; told(3, 5) 0; told(4, 5) 1; told(5, 5) 0
            """);
        t.edge(11, "WORTH: PLAYED: as KNOCKED, less 1", """
            coil(1); step(4, 0, 0, 999); step(4, 0, 0, -999); step(4, 0, 0, 1); step(4, 0, 0, -1); step(4, 0, 0, 2); step(4, 0, 0, 0)
            told(0, 5) 498; told(1, 5) 498; told(2, 5) -1; told(3, 5) -1; told(4, 5) 0; told(5, 5) -1
            """);
        t.edge(11, "WORTH: UNSEEN: 0", "coil(1); step(5, 0, 0, 999); step(5, 0, 0, -80); watch(0, 0, 0); told(0, 5) 0; told(1, 5) 0");
        t.edge(11, "WORTH is told of a STEP that does not FIT", "coil(1); step(1, 0, 0, -5); told(0, 4) 0; told(0, 5) 85");
    }

    private static void as() {
        t.edge(12, "BAD: there is no such STEP", "as(0, 0) BAD; coil(1); step(0, 0, 0, 7); as(0, 0) 7; as(1, 0) BAD; as(-1, 0) BAD; as(MAX, 0) BAD; as(MIN, 0) BAD");
        t.edge(12, "BAD: KIND is 0 .. 5", "coil(1); step(5, 0, 0, 7); as(0, -1) BAD; as(0, 0) 7; as(0, 5) 7; as(0, 6) BAD; as(0, MIN) BAD; as(0, MAX) BAD");
        t.edge(12, "a STEP is a STEP alone", "coil(1); step(0, 0, 0, -7); as(0, 0) -7; as(0, 1) KIND; as(0, 2) KIND; as(0, 3) KIND; as(0, 4) KIND; as(0, 5) KIND");
        t.edge(12, "JUST is under STEP", "coil(1); step(1, 0, 0, -7); as(0, 0) -7; as(0, 1) -7; as(0, 2) KIND; as(0, 3) KIND; as(0, 4) KIND; as(0, 5) KIND");
        t.edge(12, "KNOCKED is under STEP", "coil(1); step(2, 0, 0, -7); as(0, 0) -7; as(0, 1) KIND; as(0, 2) -7; as(0, 3) KIND; as(0, 4) KIND; as(0, 5) KIND");
        t.edge(12, "PAIRED is under JUST, and so under STEP", "coil(1); step(3, 0, 0, -7); as(0, 0) -7; as(0, 1) -7; as(0, 2) KIND; as(0, 3) -7; as(0, 4) KIND; as(0, 5) KIND");
        t.edge(12, "PLAYED is under KNOCKED, and so under STEP", "coil(1); step(4, 0, 0, -7); as(0, 0) -7; as(0, 1) KIND; as(0, 2) -7; as(0, 3) KIND; as(0, 4) -7; as(0, 5) KIND");
        t.edge(12, "UNSEEN is under STEP", "coil(1); step(5, 0, 0, -7); as(0, 0) -7; as(0, 1) KIND; as(0, 2) KIND; as(0, 3) KIND; as(0, 4) KIND; as(0, 5) -7");
        t.edge(12, "HEIGHT, the greatest, the least, 0", "coil(1); step(3, 0, 0, 999); step(3, 0, 0, -999); step(3, 0, 0, 0); as(0, 1) 999; as(1, 1) -999; as(2, 1) 0");
        t.edge(12, "by the KIND that it is of now", "coil(1); step(3, 0, 0, 7); as(0, 1) 7; turns(0, 4); as(0, 1) KIND; as(0, 2) 7");
    }

    private static void turns() {
        t.edge(13, "BAD: there is no such STEP", "turns(0, 0) BAD; coil(1); step(2, 0, 0, 7); turns(1, 0) BAD; turns(-1, 0) BAD; turns(MAX, 0) BAD; turns(MIN, 0) BAD; told(0, 0) 2");
        t.edge(13, "BAD: KIND is 0 .. 5", "coil(1); step(2, 0, 0, 7); turns(0, -1) BAD; turns(0, 6) BAD; turns(0, MIN) BAD; turns(0, MAX) BAD; turns(0, 0) 2; turns(0, 5) 0; told(0, 0) 5");
        t.edge(13, "what it was", "coil(1); step(2, 0, 0, 7); turns(0, 3) 2; turns(0, 4) 3; turns(0, 1) 4; turns(0, 0) 1; turns(0, 5) 0; turns(0, 2) 5");
        t.edge(13, "to the KIND that it has: what it was", "coil(1); step(2, 0, 0, 7); turns(0, 2) 2; told(0, 0) 2; as(0, 2) 7");
        t.edge(13, "all else of it stays", "coil(1); coil(1); run(2); step(2, 1, 1, -80); turns(0, 1) 2; told(0, 1) 1; told(0, 2) 1; told(0, 3) -80; told(0, 4) 0; told(0, 5) 160");
        t.edge(13, "the other STEPS stay", "coil(1); 3 * step(2, 0, 0, 7); turns(1, 4) 2; told(0, 0) 2; told(2, 0) 2");
    }

    private static void drop() {
        t.edge(14, "BAD: there is no such STEP", "drop(0) BAD; coil(1); step(2, 0, 0, 7); drop(1) BAD; drop(-1) BAD; drop(MAX) BAD; drop(MIN) BAD; count(2) 1");
        t.edge(14, "the only one goes", "coil(1); step(2, 0, 0, 7); drop(0) 0; told(0, 0) BAD; drop(0) BAD");
        t.edge(14, "the last one goes: none has another number", "coil(1); step(2, 0, 0, 7); step(3, 0, 0, 8); step(4, 0, 0, 9); drop(2) 2; told(0, 3) 7; told(1, 3) 8; told(2, 3) BAD");
        t.edge(14, "the first one goes: all have one less", """
            coil(1); coil(1); run(2); step(2, 0, 0, 7); step(3, 1, 1, 8); step(4, 0, 2, 9); drop(0) 2
            told(0, 0) 3; told(0, 1) 1; told(0, 2) 1; told(0, 3) 8; told(1, 0) 4; told(1, 1) 0; told(1, 2) 2; told(1, 3) 9; told(2, 0) BAD
            """);
        t.edge(14, "one between goes: those with greater numbers have one less", "coil(1); step(2, 0, 0, 7); step(3, 0, 0, 8); step(4, 0, 0, 9); drop(1) 2; told(0, 3) 7; told(1, 3) 9; told(2, 3) BAD");
        t.edge(14, "of forty the last one, the first one", "coil(1); step(0, 0, 0, 1); 38 * step(0, 0, 0, 2); step(0, 0, 0, 3); drop(40) BAD; drop(39) 39; told(38, 3) 2; drop(0) 38; told(0, 3) 2; told(37, 3) 2; told(38, 3) BAD");
    }

    private static void set() {
        t.edge(15, "WANTED is 1 .. 999", "set(0, 0) BAD; set(0, 1) 80; set(0, 999) 1; set(0, 1000) BAD; set(0, -1) BAD; set(0, MIN) BAD; set(0, MAX) BAD; set(0, 5) 999");
        t.edge(15, "PEN is 0 .. 99", "set(1, -1) BAD; set(1, 0) 4; set(1, 99) 0; set(1, 100) BAD; set(1, MIN) BAD; set(1, MAX) BAD; set(1, 5) 99");
        t.edge(15, "BELIEF is 0 .. 10000", "set(2, -1) BAD; set(2, 0) 5000; set(2, 10000) 0; set(2, 10001) BAD; set(2, MIN) BAD; set(2, MAX) BAD; count(8) 10000");
        t.edge(15, "THE WORLD is 0 or 1", "set(3, -1) BAD; set(3, 1) 0; set(3, 2) BAD; set(3, MIN) BAD; set(3, MAX) BAD; set(3, 0) 1; set(3, 0) 0");
        t.edge(15, "BAD: what is 0 .. 3", "set(-1, 1) BAD; set(4, 1) BAD; set(MIN, 1) BAD; set(MAX, 1) BAD; set(0, 1) 80; set(3, 1) 0");
    }

    private static void setStays() {
        t.edge(15, "each by itself", "set(0, 7) 80; set(1, 8) 4; set(2, 9) 5000; set(3, 1) 0; set(0, 7) 7; set(1, 8) 8; set(2, 9) 9; set(3, 1) 1");
        t.edge(15, "what is refused leaves what it was", """
            set(0, 50); set(0, 0) BAD; set(0, 50) 50; set(1, 60); set(1, 100) BAD; set(1, 60) 60
            set(2, 70); set(2, 10001) BAD; set(2, 70) 70; set(3, 1); set(3, 2) BAD; set(3, 1) 1
            """);
    }

    private static void fit() {
        t.edge(16, "none: 0", "fit() 0; coil(1); fit() 0; step(0, 0, 0, 85); fit() 0");
        t.edge(16, "all forty", "coil(1); 40 * step(0, 0, 0, -84); fit() 40; set(1, 3); fit() 0");
        t.edge(16, "each as its KIND says", """
            coil(1); coil(1); step(0, 0, 0, -80); step(1, 0, 0, -80); step(2, 0, 0, -80); step(3, 0, 0, 80); step(4, 0, 0, 80); step(5, 0, 0, 80)
            fit() 3; watch(0, 0, 0); fit() 2; pair(0, 1); step(4, 1, 0, 80); fit() 3
            """);
        t.edge(16, "the first and the last count", "coil(1); step(0, 0, 0, 80); step(0, 0, 0, 1); step(0, 0, 0, 80); fit() 2; drop(0); fit() 1; drop(1); fit() 0");
    }
}
