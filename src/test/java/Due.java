/** What the tests share: answers that are due, counted when they are not given. */
final class Due {
    private int asked = 0;
    private int wrong = 0;

    void due(String call, long got, long want) {
        asked++;
        if (got != want) {
            wrong++;
            System.out.println(call + " answered " + got + ", due is " + want);
        }
    }

    /** Feeds a text of any length up to 96 to the tape, and trims what was fed beyond its end. */
    static void type(FluxWatch x, String text) {
        int[] word = new int[3];
        for (int at = 0; at < text.length(); at += 12) {
            for (int i = 0; i < 3; i++) {
                word[i] = 0;
                for (int j = 0; j < 4; j++) {
                    int place = at + 4 * i + j;
                    int sign = place < text.length() ? text.charAt(place) & 255 : ' ';
                    word[i] = word[i] << 8 | sign;
                }
            }
            x.feed(word[0], word[1], word[2]);
        }
        x.trim(text.length());
    }

    static int law(FluxWatch x, String text) {
        type(x, text);
        return x.text();
    }

    /** Ends the program: with 1 if an answer was wrong, or if none was asked for. */
    void end() {
        System.out.println(asked + " answers, " + wrong + " not as due");
        if (wrong != 0 || asked == 0) {
            System.exit(1);
        }
    }
}
