/** Counts answers that are not the ones that are due, and prints them. */
final class Due {
    private static int wrong = 0;
    private static int asked = 0;

    private Due() { }

    static void due(String call, long got, long want) {
        asked++;
        if (got != want) {
            wrong++;
            System.out.println(call + " answered " + got + ", due is " + want);
        }
    }

    static void end() {
        System.out.println(asked + " answers, " + wrong + " not as due");
        if (wrong != 0) {
            System.exit(1);
        }
    }

    /** Puts a text on the tape, which must be empty. */
    static void onTape(LastLight x, String text) {
        for (int at = 0; at < text.length(); at += 12) {
            x.feed(four(text, at), four(text, at + 4), four(text, at + 8));
        }
        x.trim(text.length());
    }

    static int textOf(LastLight x, String text) {
        onTape(x, text);
        return x.text();
    }

    static int four(String text, int at) {
        int number = 0;
        for (int i = at; i < at + 4; i++) {
            number = number << 8 | (i < text.length() ? text.charAt(i) & 255 : 0);
        }
        return number;
    }
}
