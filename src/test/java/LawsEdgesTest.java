/** The edges of promises 24 to 28, sentence by sentence. */
public final class LawsEdgesTest {
    private static final Edges t = new Edges();

    public static void main(String[] args) {
        feed();
        trim();
        words();
        everyByte();
        blanks();
        numbers();
        names();
        keys();
        order();
        tests();
        depth();
        theEnd();
        textIsFull();
        usedUp();
        ints();
        truth();
        binding();
        textTold();
        why();
        t.end(24, 28);
    }

    /** A text that is taken: it is text 0. */
    private static void good(String sentence, String... texts) {
        for (String text : texts) {
            t.edge(26, sentence + ": " + text, "'" + text + "' 0; count(3) 1; count(11) 0");
        }
    }

    private static void fault(String sentence, String text, int place) {
        t.edge(26, sentence + ": " + text, "'" + text + "' FAULT " + place + "; count(3) 0; count(11) 0");
    }

    /** What a law of rate gives on day 3, on which 7 is seen and 80 wanted: 0 .. 999 as it is. */
    private static void gives(String sentence, String law, int want) {
        t.edge(26, sentence + ": " + law, "coil(7); watch(0, 3, 3); 'rate " + law + "' 0; news(3, 0) " + want);
    }

    private static void feed() {
        t.edge(24, "twelve bytes a call: how many it has", "8 * feed(0, 0, 0); trim(0); feed(1, 2, 3) 12; feed(1, 2, 3) 24; feed(-1, -2, -3) 36; count(11) 36");
        t.edge(24, "FULL: it would have more than 96", "7 * feed(0, 0, 0); feed(0, 0, 0) 96; feed(0, 0, 0) FULL; count(11) 96");
        t.edge(24, "FULL: from 85 bytes on", "8 * feed(0, 0, 0); trim(85); feed(0, 0, 0) FULL; count(11) 85; trim(84); feed(0, 0, 0) 96");
        // "rate", " 5  ", and blanks
        t.edge(24, "FULL: what is on it stays", """
            feed(0x72617465, 0x20352020, 0x20202020) 12; 7 * feed(0x20202020, 0x20202020, 0x20202020)
            feed(0, 0, 0) FULL; text() 0; news(0, 0) 5
            """);
        // "rate", " 123", "4-1 "
        t.edge(24, "the highest of each number first", "feed(0x72617465, 0x20313233, 0x342d3120) 12; text() 0; news(0, 0) 999; textTold(0, 1) 2");
        t.edge(24, "a byte is 0 .. 255: the lowest of -1 is 255", "feed(0x72617465, 0x203520ff, 0x20202020); text() FAULT 7; feed(-1, -1, -1); text() FAULT 0");
        t.edge(24, "behind a text the tape begins anew", "'rate 1' 0; feed(0x72617465, 0x20352020, 0x20202020) 12; text() 1");
    }

    private static void trim() {
        t.edge(25, "of an empty tape", "trim(0) 0; trim(1) BAD; trim(-1) BAD");
        t.edge(25, "BAD: n is 0 to how many it has", "feed(0, 0, 0); trim(-1) BAD; trim(13) BAD; trim(MIN) BAD; trim(MAX) BAD; count(11) 12; trim(12) 12; trim(11) 11; trim(12) BAD; count(11) 11; trim(0) 0; count(11) 0");
        t.edge(25, "of a full tape", "8 * feed(0, 0, 0); trim(97) BAD; trim(96) 96; trim(95) 95; trim(96) BAD");
        t.edge(25, "its first n bytes", "feed(0x72617465, 0x20313233, 0x342d3120); trim(6) 6; text() 0; news(0, 0) 1; feed(0x72617465, 0x20313233, 0x342d3120); trim(7); text() 1; news(0, 0) 12");
        t.edge(25, "what was cut is gone", "feed(0x72617465, 0x20313233, 0x342d3120); trim(4); feed(0x20322020, 0x20202020, 0x20202020) 16; text() 0; news(0, 0) 2");
    }

    private static void words() {
        fault("a word is as long as it goes", "rates", 0);
        fault("a word is as long as it goes", "rate sd", 5);
        fault("a word is as long as it goes", "rate ss", 5);
        fault("a word is as long as it goes, z too", "rate sz", 5);
        fault("a word is as long as it goes, a too", "rate sa", 5);
        fault("a number is as long as it goes, 0 and 9 too", "rate 50009", 5);
        fault("a word needs a blank behind another one", "rate5", 4);
        fault("a word needs a blank behind another one", "rate 5s", 6);
        fault("a word needs a blank behind another one", "rate s5", 6);
        fault("a word needs a blank behind another one", "rate 5s+", 6);
        good("a sign needs none", "rate(5)", "rate!5", "rate 5+s*d<w", "rate(s)=(5)");
        fault("letters are a .. z: the byte below a", "rate s`", 6);
        fault("letters are a .. z: the byte above z", "rate s{", 6);
        fault("letters are a .. z: Z is a sign", "rate sZ", 6);
        fault("letters are a .. z: A is a sign", "rate A", 5);
        fault("letters are a .. z: a and z are", "rate az", 5);
        fault("letters are a .. z: za is one word", "rate 5 za", 7);
        fault("digits are 0 .. 9: the byte above 9", "rate 5:", 6);
        good("digits are 0 .. 9: the byte below 0 is /", "rate 5/0", "rate 0/9");
        fault("any other byte is a sign by itself", "rate 5\\x00", 6);
        fault("any other byte is a sign by itself", "rate 5\\xff", 6);
        fault("any other byte is a sign by itself", "rate 5.5", 6);
        fault("any other byte is a sign by itself", "rate 5%5", 6);
        fault("two signs are not one", "rate 5<=5", 7);
        fault("two signs are not one", "rate 5&&5", 7);
        fault("two signs are not one", "rate 5||5", 7);
        fault("two signs are not one", "rate 5==5", 7);
    }

    /** Each of the 256 bytes: where a text begins, where a piece is wanted (first, and behind one that was), behind a piece. */
    private static void everyByte() {
        for (int b = 0; b < 256; b++) {
            String told = "\\x%02x".formatted(b);
            boolean blank = b == 32;
            boolean digit = b >= '0' && b <= '9';
            t.edge(26, "byte " + b + " alone", "'" + told + "' FAULT " + (blank ? 1 : 0));
            if (digit || "sdw".indexOf(b) >= 0) {
                t.edge(26, "byte " + b + " is a PIECE", "'rate " + told + "' 0; textTold(0, 1) 1; 'rate s+" + told + "' 1; textTold(1, 1) 2");
            } else {
                boolean goesOn = blank || b == '!' || b == '(';
                fault("byte " + b + " as a PIECE", "rate " + told, goesOn ? 6 : 5);
                fault("byte " + b + " as another PIECE", "rate s+" + told, goesOn ? 8 : 7);
            }
            if (digit || blank) {
                t.edge(26, "byte " + b + " behind a PIECE", "'rate 5" + told + "' 0; textTold(0, 1) 1");
            } else {
                fault("byte " + b + " behind a PIECE", "rate 5" + told, "|&<=>+-*/".indexOf(b) >= 0 ? 7 : 6);
            }
        }
    }

    private static void blanks() {
        good("blanks at the ends", "   rate 5   ", " rate 5", "rate 5 ");
        good("blanks between words and signs", "rate   5  +  s", "rate ( 5 ) ", "rate ! ! 5", "rate!  5");
        fault("a blank parts two words", "rate 5 5", 7);
        fault("a blank parts two words", "ra te 5", 0);
        fault("a blank parts two words", "rate s d", 7);
        fault("a blank is byte 32: 9 is none", "rate\\x095", 4);
        fault("a blank is byte 32: 10 is none", "rate 5\\x0a", 6);
        fault("a blank is byte 32: 31 is none", "rate\\x1f5", 4);
        fault("a blank is byte 32: 0 is none", "\\x00rate 5", 0);
        fault("a blank is byte 32: 160 is none", "rate\\xa05", 4);
        fault("the place counts blanks", "   rat 5", 3);
        fault("the place counts blanks", "  rate   x", 9);
    }

    private static void numbers() {
        good("1 to 4 digits", "rate 0", "rate 9", "rate 10", "rate 999", "rate 9999", "rate 0000");
        fault("more than 4 digits", "rate 12345", 5);
        fault("more than 4 digits", "rate 00000", 5);
        fault("more than 4 digits", "rate 1+10000", 7);
        fault("more than 4 digits", "rate (99999)", 6);
        fault("more than 4 digits", "rate 1234 12345", 10);
        gives("1 digit", "7", 7);
        gives("2 digits", "42", 42);
        gives("3 digits", "987", 987);
        gives("4 digits", "1234-1000", 234);
        gives("4 digits, 0 ahead", "0042", 42);
        gives("the greatest NUMBER", "9999-9000", 999);
        fault("no sign of its own", "rate -5", 5);
        fault("no sign of its own", "rate +5", 5);
    }

    private static void names() {
        good("NAMES of rate", "rate s", "rate d", "rate w");
        good("NAMES of knock", "knock s", "knock d", "knock p");
        good("NAMES of stars", "stars s", "stars d");
        fault("not of rate", "rate p", 5);
        fault("not of knock", "knock w", 6);
        fault("not of stars", "stars w", 6);
        fault("not of stars", "stars p", 6);
        fault("no NAME at all", "rate a", 5);
        fault("no NAME at all", "rate z", 5);
        fault("no NAME at all", "rate rate", 5);
        fault("no NAME at all", "knock 1+q", 8);
        t.edge(26, "s is SEEN, d DAY, w WANTED of rate", "coil(7); watch(0, 3, 3); set(0, 999); 'rate s' 0; news(3, 0) 7; news(4, 0) 0; 'rate d' 1; news(3, 0) 3; news(0, 0) 0; 'rate w' 2; news(3, 0) 999; set(0, 1); news(3, 0) 1");
        t.edge(26, "s is SEEN, d DAY, p PEN of knock", "coil(7); watch(0, 3, 3); set(1, 99); 'knock s' 0; news(3, 1) 7; news(4, 1) 0; 'knock d' 1; news(3, 1) 3; news(0, 1) 0; 'knock p' 2; news(3, 1) 99; set(1, 0); news(3, 1) 0");
        t.edge(26, "s is SEEN, d DAY of stars", "coil(7); watch(0, 3, 3); 'rate 7' 0; 'stars s' 1; beyond() 0; 'stars 9-s' 2; beyond() 3; 'stars 9-d' 3; beyond() 3; 'stars 7+(d<5)-(d=5)' 4; beyond() 5");
    }

    private static void keys() {
        t.edge(26, "KEY: rate | knock | stars", "'rate 5' 0; 'knock 5' 1; 'stars 5' 2; textTold(0, 0) 0; textTold(1, 0) 1; textTold(2, 0) 2");
        fault("no such KEY", "rat 5", 0);
        fault("no such KEY", "ratee 5", 0);
        fault("no such KEY", "Rate 5", 0);
        fault("no such KEY", "RATE 5", 0);
        fault("no such KEY", "knoc 5", 0);
        fault("no such KEY", "knocks 5", 0);
        fault("no such KEY", "star 5", 0);
        fault("no such KEY", "starss 5", 0);
        fault("no such KEY", "xate 5", 0);
        fault("no such KEY", "ratx 5", 0);
        fault("no such KEY", "s", 0);
        fault("a KEY stands first", "5", 0);
        fault("a KEY stands first", "5 rate", 0);
        fault("a KEY stands first", "(rate 5)", 0);
        fault("a KEY stands first", "!rate 5", 0);
        fault("one KEY alone", "rate knock 5", 5);
        fault("one KEY alone", "rate 5 knock 5", 7);
    }

    private static void order() {
        fault("behind a sign stands a PIECE", "rate 5++5", 7);
        fault("behind a sign stands a PIECE", "rate 5*/5", 7);
        fault("behind a sign stands a PIECE", "rate 5&|5", 7);
        fault("behind a sign stands a PIECE", "rate 5<>5", 7);
        fault("behind a sign stands a PIECE", "rate *5", 5);
        fault("behind a sign stands a PIECE", "rate |5", 5);
        fault("behind a sign stands a PIECE", "rate =5", 5);
        fault("behind a PIECE stands no other", "rate 5(5)", 6);
        fault("behind a PIECE stands no other", "rate (5)5", 8);
        fault("behind a PIECE stands no other", "rate (5)(5)", 8);
        fault("behind a PIECE stands no other", "rate 5!5", 6);
        fault("behind a PIECE stands no other", "rate (5)!", 8);
        fault("( E )", "rate ()", 6);
        fault("( E )", "rate 5)", 6);
        fault("( E )", "rate (5))", 8);
        fault("( E )", "rate )", 5);
        fault("( E )", "rate (5+)", 8);
        fault("( E )", "rate (5 5)", 8);
        fault("( E )", "rate (5<6>7)", 9);
        fault("! PIECE", "rate !+5", 6);
        fault("! PIECE", "rate !)", 6);
        good("! PIECE", "rate !5", "rate !s", "rate !!5", "rate !(5)", "rate 5+!5", "rate 5*!5", "rate !5<!6");
    }

    private static void tests() {
        fault("TEST: one sign at the most", "rate 1<2<3", 8);
        fault("TEST: one sign at the most", "rate 1<2=3", 8);
        fault("TEST: one sign at the most", "rate 1=2>3", 8);
        fault("TEST: one sign at the most", "rate 1>2>3", 8);
        fault("TEST: one sign at the most", "rate 1<2+3<4", 10);
        fault("TEST: one sign at the most", "rate 1<2&3=4=5", 12);
        good("TEST: one sign each", "rate 1<2&3<4|5=6", "rate 1<2|3>4", "rate (1<2)<3", "rate 1<(2<3)", "rate (1<2)=(3<4)", "rate 1+2<3*4");
        good("as many of the others as there is room", "rate 1|2|3|4|5|6|7|8|9|0", "rate 1&2&3&4&5&6&7&8&9&0", "rate 1+2-3+4-5+6-7+8-9+0", "rate 1*2/3*4/5*6/7*8/9*0");
    }

    private static void depth() {
        good("eight ( within others", "rate ((((((((5))))))))", "rate ((((((((5))))))))+((((((((5))))))))", "rate !((((((((5))))))))", "rate (((((((( 5 +5))))))))");
        fault("the ninth ( within others", "rate (((((((((5)))))))))", 13);
        fault("the ninth ( within others", "rate (((((((((", 13);
        fault("the ninth ( within others", "rate ((((((((5+(5)))))))))", 15);
        fault("the ninth ( within others", "rate 5+(((((((((5)))))))))", 15);
        fault("the ninth ( within others", "rate ((((((((5))))))))+(((((((((5)))))))))", 31);
        fault("the ninth ( within others", "rate !(!(!(!(!(!(!(!((5)))))))))", 21);
        good("nine ( side by side", "rate (1)+(1)+(1)+(1)+(1)+(1)+(1)+(1)+(1)", "rate (((((((1))))))+(((((((1))))))))");
        good("eight ! within others", "rate !!!!!!!!5", "rate !!!!!!!!(5)", "rate !!!!!!!!5+!!!!!!!!5", "rate !(!(!(!(!(!(!(!5)))))))");
        fault("the ninth ! within others", "rate !!!!!!!!!5", 13);
        fault("the ninth ! within others", "rate !!!!!!!!!", 13);
        fault("the ninth ! within others", "rate 5+!!!!!!!!!5", 15);
        fault("the ninth ! within others", "rate !!!!!!!!5+!!!!!!!!!5", 23);
        fault("the ninth ! within others, through (", "rate !(!(!(!(!(!(!(!(!5))))))))", 21);
        fault("the ninth ! within others, through (", "rate !!!!!!!!(!5)", 14);
        good("nine ! side by side", "rate !1+!1+!1+!1+!1+!1+!1+!1+!1", "rate !(!!!!!!!1+!!!!!!!1)");
        good("each by itself: eight of both", "rate !!!!!!!!((((((((5))))))))", "rate !(!(!(!(!(!(!(!(5))))))))");
    }

    private static void theEnd() {
        fault("the end comes too soon: no byte", "", 0);
        fault("the end comes too soon: blanks alone", "   ", 3);
        fault("the end comes too soon: a KEY alone", "rate", 4);
        fault("the end comes too soon: behind the last byte, a blank", "rate  ", 6);
        fault("the end comes too soon: behind a sign", "rate 5+", 7);
        fault("the end comes too soon: behind a sign and blanks", "rate 5 <  ", 10);
        fault("the end comes too soon: behind !", "rate !", 6);
        fault("the end comes too soon: behind (", "rate (", 6);
        fault("the end comes too soon: ahead of )", "rate (5", 7);
        fault("the end comes too soon: ahead of )", "rate ((5) ", 10);
        fault("the end comes too soon: eight (", "rate ((((((((", 13);
        fault("the end comes too soon: eight !", "rate !!!!!!!!", 13);
        String full = "stars 5" + "+1".repeat(44);
        fault("the end of a full tape", full + "+", 96);
        good("a full tape", full + " ", "rate 1" + "+1".repeat(45));
        fault("the last byte of a full tape", full + ")", 95);
    }

    private static void textIsFull() {
        StringBuilder many = new StringBuilder();
        for (int i = 0; i < 14; i++) {
            many.append("'rate ").append(i).append("' ").append(i).append("; ");
        }
        t.edge(26, "FULL: 14 at most", many + "'rate 14' FULL; count(3) 14; news(0, 0) 13; why(0) 13; 'knock 5' FULL; why(1) NONE; news(0, 1) 1; textTold(14, 0) BAD");
        t.edge(26, "a FAULT stands ahead of FULL", many + "'rate' FAULT 4; '' FAULT 0; 'rate 5)' FAULT 6; count(3) 14");
        t.edge(26, "FULL: THE TAPE is used up", many + "'rate 14' FULL; count(11) 0; text() FAULT 0");
        t.edge(26, "a TEXT that is refused has no number", "'rate 5' 0; 'rate' FAULT 4; 'rate 6' 1; count(3) 2; news(0, 0) 6");
        t.edge(26, "the KEYS share the numbers", "'stars 5' 0; 'rate 5' 1; 'knock 5' 2; 'rate 6' 3; count(3) 4");
    }

    private static void usedUp() {
        t.edge(26, "THE TAPE is used up by a TEXT", "'rate 5' 0; count(11) 0; text() FAULT 0; count(3) 1");
        t.edge(26, "THE TAPE is used up by a FAULT", "'rate 5 5' FAULT 7; count(11) 0; text() FAULT 0; 'rate 5' 0");
        t.edge(26, "what was read last is gone with it", "'rate ss' FAULT 5; 'rate s' 0; 'rate 12345' FAULT 5; 'rate 1234' 1; 'rate s' 2; 'stars 1' 3");
    }

    private static void ints() {
        gives("/ is 0 by 0", "5/0", 0);
        gives("/ is 0 by 0", "5/0+9", 9);
        gives("/ is 0 by 0", "0/0+9", 9);
        gives("/ is 0 by 0", "9-5/(3-d)", 9);
        gives("/ cuts towards 0", "7/2", 3);
        gives("/ cuts towards 0", "(0-7)/2+9", 6);
        gives("/ cuts towards 0", "7/(0-2)+9", 6);
        gives("/ cuts towards 0", "(0-7)/(0-2)", 3);
        gives("/ cuts towards 0", "(0-1)/2+9", 9);
        gives("ints wrap: above the greatest", "8192*8192*32<0", 1);
        gives("ints wrap: the greatest", "8192*8192*32-1>0", 1);
        gives("ints wrap: below the least", "0-8192*8192*32-1>0", 1);
        gives("ints wrap: the least less itself", "0-8192*8192*32=8192*8192*32", 1);
        gives("ints wrap: twice the least", "8192*8192*32*2+5", 5);
        gives("ints wrap: a sum", "(8192*8192*32-1)+1<0", 1);
        gives("ints wrap: the least by -1", "8192*8192*32/(0-1)<0", 1);
        gives("ints wrap: the lowest 32 bits", "8192*8*(8192*8+1)/100", 655);
    }

    private static void truth() {
        gives("tests give 1 or 0", "1<2", 1);
        gives("tests give 1 or 0", "(2<2)+5", 5);
        gives("tests give 1 or 0", "(3<2)+5", 5);
        gives("tests give 1 or 0", "(2>1)+5", 6);
        gives("tests give 1 or 0", "(2>2)+5", 5);
        gives("tests give 1 or 0", "(1>2)+5", 5);
        gives("tests give 1 or 0", "(2=2)+5", 6);
        gives("tests give 1 or 0", "(2=1)+5", 5);
        gives("tests are of signed ints", "(0-1<0)+(0>0-1)*2", 3);
        gives("tests are of signed ints, at the ends", "8192*8192*32<8192*8192*32-1", 1);
        gives("what is not 0 is true: &", "(5&7)+(0-1&2)*10", 11);
        gives("what is not 0 is true: | gives 1", "(5|7)+(0|9)*10+(9|0)*100", 111);
        gives("what is not 0 is true: 2 & 1", "2&1", 1);
        gives("& of a 0", "(0&5)+(5&0)+(0&0)+7", 7);
        gives("| of two 0", "(0|0)+7", 7);
        gives("! of what is not 0", "!5+7", 7);
        gives("! of what is below 0", "!(0-1)+7", 7);
        gives("! of 0", "!0+7", 8);
        gives("! of !", "!!5+!!!0*10", 11);
        gives("both sides are worked out", "(1|5/0)+(0&5/0)+7", 8);
    }

    private static void binding() {
        gives("OR is the loosest", "1|1&0", 1);
        gives("OR is the loosest", "0&1|1", 1);
        gives("AND is looser than TEST", "2&2=2", 1);
        gives("AND is looser than TEST", "0=0&0", 0);
        gives("TEST is looser than SUM", "1+2=3", 1);
        gives("TEST is looser than SUM", "5<4+3", 1);
        gives("SUM is looser than TERM", "2+3*4", 14);
        gives("SUM is looser than TERM", "20-8/2", 16);
        gives("! binds tightest", "!0*7", 7);
        gives("! binds tightest", "!1+1", 1);
        gives("! binds tightest", "!2=0", 1);
        gives("from the left: -", "10-3-2", 5);
        gives("from the left: - +", "10-3+2", 9);
        gives("from the left: /", "100/7/2", 7);
        gives("from the left: / *", "7/2*2", 6);
        gives("from the left: * /", "7*3/2", 10);
        gives("( E ) ahead of all", "(2+3)*4", 20);
        gives("( E ) ahead of all", "10-(3-2)", 9);
        gives("( E ) ahead of all", "(1|1)&0", 0);
        gives("( E ) ahead of all", "!(0&1)", 1);
    }

    private static void textTold() {
        t.edge(27, "BAD: there is no such TEXT", "textTold(0, 0) BAD; 'knock 5' 0; textTold(0, 0) 1; textTold(1, 0) BAD; textTold(-1, 0) BAD; textTold(MAX, 0) BAD; textTold(MIN, 0) BAD");
        t.edge(27, "BAD: what is 0 or 1", "'knock 5' 0; textTold(0, -1) BAD; textTold(0, 0) 1; textTold(0, 1) 1; textTold(0, 2) BAD; textTold(0, MAX) BAD; textTold(0, MIN) BAD");
        t.edge(27, "KEY: 0 rate, 1 knock, 2 stars", "'stars 5' 0; 'knock 5' 1; 'rate 5' 2; textTold(0, 0) 2; textTold(1, 0) 1; textTold(2, 0) 0");
        t.edge(27, "how many NUMBERS and NAMES: one", "'rate ((5))' 0; textTold(0, 1) 1; 'rate !!s' 1; textTold(1, 1) 1");
        t.edge(27, "how many NUMBERS and NAMES: each as often as it stands there", "'rate s+s*1234-d/(w+5<5)' 0; textTold(0, 1) 7");
        t.edge(27, "how many NUMBERS and NAMES: as many as there is room for", "'rate 1" + "+s".repeat(45) + "' 0; textTold(0, 1) 46");
        t.edge(27, "a TEXT that counts no more is told, too", "'rate 5' 0; 'rate 5+5' 1; textTold(0, 0) 0; textTold(0, 1) 1; textTold(1, 1) 2");
    }

    private static void why() {
        t.edge(28, "BAD: a KEY is 0 .. 2", "'stars 5' 0; 'knock 6' 1; 'rate 7' 2; why(-1) BAD; why(0) 2; why(1) 1; why(2) 0; why(3) BAD; why(MIN) BAD; why(MAX) BAD");
        t.edge(28, "NONE: of that KEY there is no TEXT", "why(0) NONE; why(1) NONE; why(2) NONE; 'knock 5' 0; why(0) NONE; why(1) 0; why(2) NONE");
        t.edge(28, "that was told last", "'rate 5' 0; why(0) 0; news(0, 0) 5; 'rate 6' 1; why(0) 1; news(0, 0) 6; 'knock 7' 2; why(0) 1; news(0, 0) 6; news(0, 1) 7");
        t.edge(28, "a FAULT leaves it", "'rate 5' 0; 'rate 6+' FAULT 7; why(0) 0; news(0, 0) 5");
        t.edge(28, "as THE IMAGE has it", "'rate 5' 0; keep(); 'rate 6' 1; 'stars 1' 2; back(); why(0) 0; why(2) NONE; news(0, 0) 5; 'knock 8' 1; why(1) 1; why(0) 0");
    }
}
