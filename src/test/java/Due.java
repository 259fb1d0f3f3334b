/** What the tests share: compares answers with what is due, and tells a law to an object. */
final class Due {
    private static int wrong;
    private static int asked;

    private Due() {
    }

    static void is(String call, long got, long want) {
        asked++;
        if (got != want) {
            wrong++;
            System.out.println(call + " answered " + got + ", due is " + want);
        }
    }

    static void yes(String call, boolean got) {
        is(call, got ? 1 : 0, 1);
    }

    static void no(String call, boolean got) {
        is(call, got ? 1 : 0, 0);
    }

    static void end() {
        System.out.println(asked + " answers, " + wrong + " not as due");
        if (wrong != 0) {
            System.exit(1);
        }
    }

    /** Puts a text on a tape that is empty. */
    static void tape(TakeOver x, String text) {
        int fed = 0;
        while (fed < text.length()) {
            x.feed(four(text, fed), four(text, fed + 4), four(text, fed + 8), four(text, fed + 12), four(text, fed + 16));
            fed += 20;
        }
        x.end(text.length());
    }

    static int law(TakeOver x, String text) {
        tape(x, text);
        return x.text();
    }

    private static int four(String text, int from) {
        int word = 0;
        for (int i = from; i < from + 4; i++) {
            word = word << 8 | (i < text.length() ? text.charAt(i) & 255 : 32);
        }
        return word;
    }
}
