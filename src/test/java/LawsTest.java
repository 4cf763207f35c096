/** Promises 24 to 28: laws. */
public final class LawsTest {
    private static final Due t = new Due();

    public static void main(String[] args) {
        tape();
        faultsOfWords();
        faultsOfOrder();
        faultsOfDepth();
        values();
        values2();
        names();
        told();
        full();
        usedUp();
        t.end();
    }

    private static void fault(String text, int place) {
        FluxWatch x = new FluxWatch();
        t.due("'" + text + "'", Due.law(x, text), -100 - place);
        t.due("no text of '" + text + "'", x.count(3), 0);
        t.due("the tape of '" + text + "' is used up", x.count(11), 0);
    }

    private static void good(String text, int parts) {
        FluxWatch x = new FluxWatch();
        t.due("'" + text + "'", Due.law(x, text), 0);
        t.due("parts of '" + text + "'", x.textTold(0, 1), parts);
        t.due("the tape of '" + text + "' is used up", x.count(11), 0);
    }

    /** What a law of rate gives on day 3, where 7 is seen. */
    private static void gives(String law, int want) {
        FluxWatch x = new FluxWatch();
        x.coil(7);
        x.watch(0, 0, 1999);
        t.due("'rate " + law + "'", Due.law(x, "rate " + law), 0);
        t.due("rate " + law, x.news(3, 0), want);
    }

    private static void tape() {
        FluxWatch x = new FluxWatch();
        t.due("trim(0) of none", x.trim(0), 0);
        t.due("trim(1) of none", x.trim(1), FluxWatch.BAD);
        for (int i = 1; i <= 8; i++) {
            t.due("feed " + i, x.feed(i, -i, i << 20), 12 * i);
        }
        t.due("feed 9", x.feed(0, 0, 0), FluxWatch.FULL);
        t.due("96 bytes", x.count(11), 96);
        t.due("trim(97)", x.trim(97), FluxWatch.BAD);
        t.due("trim(-1)", x.trim(-1), FluxWatch.BAD);
        t.due("trim(96)", x.trim(96), 96);
        t.due("trim(85)", x.trim(85), 85);
        t.due("no room for twelve", x.feed(0, 0, 0), FluxWatch.FULL);
        t.due("85 bytes", x.count(11), 85);
        t.due("trim(84)", x.trim(84), 84);
        t.due("room for twelve", x.feed(0, 0, 0), 96);
        FluxWatch y = new FluxWatch();
        y.feed(0x72617465, 0x20283132, 0x2b332920);
        t.due("the highest byte first", y.text(), 0);
        t.due("(12+3)", y.news(0, 0), 15);
    }

    private static void faultsOfWords() {
        fault("", 0);
        fault("   ", 3);
        fault("rate", 4);
        fault("rate  ", 6);
        fault(" rate", 5);
        fault("rat 5", 0);
        fault("  rates 5", 2);
        fault("Rate 5", 0);
        fault("rate5", 4);
        fault("rate5+", 4);
        fault("5 rate", 0);
        fault("(rate 5)", 0);
        fault("rate 12345", 5);
        fault("rate 1+00000", 7);
        fault("rate s5", 6);
        fault("rate 5s", 6);
        fault("rate ss", 5);
        fault("rate S", 5);
        fault("rate sz", 5);
        fault("rate za", 5);
        fault("xate 5", 0);
        fault("ratf 5", 0);
        fault("knocc 5", 0);
        fault("xtars 5", 0);
        fault("rate\t5", 4);
        fault("rate 5\n", 6);
        fault("rate 5" + (char) 233, 6);
        fault("rate 5" + (char) 0, 6);
        fault("rate 5 5", 7);
        fault("rate p", 5);
        fault("stars w", 6);
        fault("stars p", 6);
        fault("knock w", 6);
        fault("rate s rate", 7);
        good("rate(5)", 1);
        good("rate!5", 1);
        good("  rate   5  ", 1);
        good("rate 0000", 1);
        good("knock p", 1);
        good("stars s+d", 2);
        good("rate s+ d +w+1", 4);
    }

    private static void faultsOfOrder() {
        fault("rate +5", 5);
        fault("rate -5", 5);
        fault("rate 5+", 7);
        fault("rate 5 + ", 9);
        fault("rate 5 ++ 5", 8);
        fault("rate 5<6<7", 8);
        fault("rate 5=6 = 7", 9);
        fault("rate 1<2&3>4>5", 12);
        fault("rate 5!", 6);
        fault("rate 5 ! 6", 7);
        fault("rate ()", 6);
        fault("rate (5", 7);
        fault("rate (5 6)", 8);
        fault("rate 5)", 6);
        fault("rate (5))", 8);
        fault("rate 5(6)", 6);
        fault("rate s(", 6);
        fault("rate !", 6);
        fault("rate !&", 6);
        fault("rate 5 <= 6", 8);
        fault("rate 5 && 6", 8);
        fault("rate 5 % 6", 7);
        fault("rate 5 |", 8);
        fault("rate (5|)", 8);
        fault("rate (5<6)<7<8", 12);
        good("rate (5<6)<7", 3);
        good("rate 5<(6<7)", 3);
        good("rate 1<2&3>4|5=6", 6);
        good("rate ((1))", 1);
    }

    private static void faultsOfDepth() {
        good("rate ((((((((1))))))))", 1);
        fault("rate (((((((((1)))))))))", 13);
        good("rate !!!!!!!!1", 1);
        fault("rate !!!!!!!!!1", 13);
        good("rate !!!!!!!!((((((((1))))))))", 1);
        good("rate !(!(!(!(!(!(!(!(1))))))))", 1);
        fault("rate !(!(!(!(!(!(!(!(!1))))))))", 21);
        good("rate !!!!!!!!1+!!!!!!!!1", 2);
        good("rate ((((((((1))))))))+((((((((2))))))))", 2);
        fault("rate ((((((((1+(2)))))))))", 15);
        fault("rate ((((((((1))))))))+(((((((((2)))))))))", 31);
        good("rate !1+!1+!1+!1+!1+!1+!1+!1+!1+!1", 10);
        good("rate (1)+(1)+(1)+(1)+(1)+(1)+(1)+(1)+(1)+(1)", 10);
        fault("rate (((((((((", 13);
        fault("rate ((((((((", 13);
        fault("rate !!!!!!!!", 13);
    }

    private static void values() {
        gives("1+2*3", 7);
        gives("(1+2)*3", 9);
        gives("10-3-2", 5);
        gives("100/7/2", 7);
        gives("100/(7/2)", 33);
        gives("7*3/2", 10);
        gives("7/2*3", 9);
        gives("9/0", 0);
        gives("9/0+4", 4);
        gives("(0-7)/2+10", 7);
        gives("(3-10)/2*10+100", 70);
        gives("1<2", 1);
        gives("2<2", 0);
        gives("3>2", 1);
        gives("2>2", 0);
        gives("2=2", 1);
        gives("2=3", 0);
        gives("1+1=2", 1);
        gives("5&3", 1);
        gives("5&0", 0);
        gives("0&5", 0);
        gives("0|5", 1);
        gives("5|0", 1);
        gives("0|0", 0);
        gives("1|0&0", 1);
        gives("(1|0)&0", 0);
        gives("1<2&2<1", 0);
        gives("1<2|2<1", 1);
        gives("!0", 1);
        gives("!5", 0);
        gives("!!5", 1);
        gives("!0+5", 6);
        gives("!0*7", 7);
        gives("!(1=2)*9", 9);
        gives("!1=0", 1);
        gives("(0|0)+5", 5);
        gives("(0&3)+5", 5);
        gives("(3&0)+5", 5);
        gives("(3<2)+5", 5);
        gives("(2>3)+5", 5);
        gives("(2=3)+5", 5);
        gives("!3+5", 5);
        gives("4/0+5", 5);
    }

    private static void values2() {
        gives("(0-5)&(0-6)", 1);
        gives("0-5<3", 1);
        gives("9999*9999*9999*9999 > 0", 9999 * 9999 * 9999 * 9999 > 0 ? 1 : 0);
        gives("9999*9999*9999/1000/5000+500", 9999 * 9999 * 9999 / 1000 / 5000 + 500);
        // 2 to the 31st wraps to the least int; by -1 it stays that
        gives("(8192*8192*32/(0-1)<0)*5", 5);
        gives("8192*8192*64", 0);
        gives("8192*8192*32-1>0", 1);
        gives("s", 7);
        gives("d", 3);
        gives("w", 80);
        gives("s*d+w", 101);
    }

    private static void names() {
        FluxWatch x = new FluxWatch();
        x.coil(6);
        x.watch(0, 5, 9);
        Due.law(x, "knock s*100+d*10+p");
        t.due("knock on day 5", x.news(5, 1), 654);
        t.due("knock on day 4", x.news(4, 1), 44);
        x.set(1, 9);
        t.due("knock by another pen", x.news(5, 1), 659);
        Due.law(x, "rate w");
        x.set(0, 33);
        t.due("rate by another wanted", x.news(5, 0), 33);
    }

    private static void told() {
        FluxWatch x = new FluxWatch();
        t.due("why(-1)", x.why(-1), FluxWatch.BAD);
        t.due("why(3)", x.why(3), FluxWatch.BAD);
        t.due("why(0)", x.why(0), FluxWatch.NONE);
        t.due("told of none", x.textTold(0, 0), FluxWatch.BAD);
        t.due("stars", Due.law(x, "stars (1+s)*d"), 0);
        t.due("knock", Due.law(x, "knock 7"), 1);
        t.due("rate", Due.law(x, "rate 1+1+1+1"), 2);
        t.due("a fault between", Due.law(x, "rate 1+1+1+"), -111);
        t.due("knock again", Due.law(x, "knock 8&p"), 3);
        int[] keys = {2, 1, 0, 1};
        int[] parts = {3, 1, 4, 2};
        for (int i = 0; i < 4; i++) {
            t.due("key of " + i, x.textTold(i, 0), keys[i]);
            t.due("parts of " + i, x.textTold(i, 1), parts[i]);
        }
        t.due("told 2", x.textTold(0, 2), FluxWatch.BAD);
        t.due("told -1", x.textTold(0, -1), FluxWatch.BAD);
        t.due("told of 4", x.textTold(4, 0), FluxWatch.BAD);
        t.due("told of -1", x.textTold(-1, 0), FluxWatch.BAD);
        t.due("why rate", x.why(0), 2);
        t.due("why knock", x.why(1), 3);
        t.due("why stars", x.why(2), 0);
        t.due("four texts", x.count(3), 4);
        t.due("the last one counts", x.news(0, 1), 1);
    }

    private static void full() {
        FluxWatch x = new FluxWatch();
        for (int i = 0; i < 14; i++) {
            t.due("text " + i, Due.law(x, "rate " + i), i);
        }
        t.due("a fault ahead of full", Due.law(x, "rate"), -104);
        t.due("text 14", Due.law(x, "rate 99"), FluxWatch.FULL);
        t.due("the tape is used up", x.count(11), 0);
        t.due("fourteen texts", x.count(3), 14);
        t.due("the last one that was told", x.news(0, 0), 13);
        t.due("told of 14", x.textTold(14, 0), FluxWatch.BAD);
        t.due("why", x.why(0), 13);
    }

    private static void usedUp() {
        FluxWatch x = new FluxWatch();
        StringBuilder longest = new StringBuilder("stars 1");
        while (longest.length() < 95) {
            longest.append("+1");
        }
        longest.append(' ');
        t.due("96 bytes", Due.law(x, longest.toString()), 0);
        t.due("45 numbers", x.textTold(0, 1), 45);
        longest.setCharAt(95, '+');
        t.due("96 bytes and no end", Due.law(x, longest.toString()), -196);
        t.due("a fault that is a word", Due.law(x, "rate ss"), -105);
        t.due("goes with its tape", Due.law(x, "rate s"), 1);
        t.due("a fault that is a number", Due.law(x, "rate 5 5"), -107);
        t.due("goes, too", Due.law(x, "rate s"), 2);
        Due.type(x, "rate sss");
        x.trim(6);
        t.due("a word ends with the tape", x.text(), 3);
        Due.type(x, "rate 12345");
        x.trim(9);
        t.due("a number ends with the tape", x.text(), 4);
        t.due("its value is held", x.news(0, 0), 999);
        Due.type(x, "rate 345");
        x.trim(7);
        t.due("a number of two digits", x.text(), 5);
        t.due("its value", x.news(0, 0), 34);
    }
}
