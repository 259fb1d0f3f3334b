/** 'Terms' 2, the text, and promises 8 to 11: every sign, every count and every fault at its bound. */
public final class LawEdgesTest {
    private static final int MIN = Integer.MIN_VALUE;
    private static final int MAX = Integer.MAX_VALUE;
    private static final int NONE = TakeOver.NONE;
    private static final int BLANKS = 0x20202020;
    private static final String[] FACTS = {"weight", "room", "since", "heap", "own", "hour", "trips"};
    private static final String[] WORDS = {"take", "leave", "when", "or", "and", "not"};

    private static final Twin MIDDLE = Twin.middle();
    private static final Twin FULL = Twin.full();
    private static final Twin[] ALL = {Twin.fresh(), MIDDLE, FULL, Twin.late()};

    public static void main(String[] args) {
        feedCounts();
        feedIsRefused();
        feedHighestFirst();
        feedBehindTheTape();
        end();
        endKeepsTheFirst();
        textIsTheLaw();
        textWithAFault();
        textOfAFullTape();
        faultOfTheLatest();
        everySignFirst();
        everySignBehindAWord();
        everySignBehindANumber();
        everySignBetween();
        keywordsByOneLetter();
        keywordsStandTogether();
        numbers();
        theEnd();
        Due.end();
    }

    /** What a text on an empty tape of a new object answers. */
    private static void good(String text, int lines) {
        TakeOver x = new TakeOver();
        Due.is("10: lines of \"" + text + "\"", Due.law(x, text), lines);
        Due.is("11: fault(0) of \"" + text + "\"", x.fault(0), 0);
        Due.is("11: fault(1) of \"" + text + "\"", x.fault(1), NONE);
        Due.is("29: look(7) of \"" + text + "\"", x.look(7), lines);
    }

    private static void bad(String text, int fault, int place) {
        TakeOver x = new TakeOver();
        Due.is("10: \"" + text + "\"", Due.law(x, text), NONE);
        Due.is("11: fault(0) of \"" + text + "\"", x.fault(0), fault);
        Due.is("11: fault(1) of \"" + text + "\"", x.fault(1), place);
        Due.is("29: look(7) of \"" + text + "\"", x.look(7), 0);
    }

    private static int feedBlanks(TakeOver x) {
        return x.feed(BLANKS, BLANKS, BLANKS, BLANKS, BLANKS);
    }

    /** An object with a tape of so many blanks. */
    private static TakeOver blanks(int length) {
        TakeOver x = new TakeOver();
        for (int fed = 0; fed < length; fed += 20) {
            feedBlanks(x);
        }
        x.end(length);
        return x;
    }

    private static void feedCounts() {
        for (int length = 0; length <= 400; length++) {
            TakeOver x = blanks(length);
            Due.is("8: behind " + length + " bytes", feedBlanks(x), length <= 380 ? length + 20 : NONE);
            int then = length <= 380 ? length + 20 : length;
            Due.no("9: one more than it has", x.end(then + 1));
            Due.yes("9: as many as it has", x.end(then));
        }
    }

    private static void feedIsRefused() {
        for (int length = 381; length <= 400; length++) {
            int bytes = length;
            Twin twin = new Twin(length + " bytes", () -> blanks(bytes));
            twin.keeps("8: more than 400", NONE, x -> x.feed(0x74616b65, 0x3b202020, BLANKS, BLANKS, BLANKS));
        }
        FULL.keeps("8: more than 400", NONE, x -> x.feed(MIN, MAX, 0, -1, 1));
        TakeOver x = blanks(381);
        Due.is("8: nothing comes", x.feed(-1, -1, -1, -1, -1), NONE);
        Due.is("8: nothing came", x.text(), 0);
    }

    private static void feedHighestFirst() {
        // the 20 bytes of the five numbers in their order: each place of a word is told by the fault there
        for (int at = 0; at < 20; at++) {
            int[] five = {BLANKS, BLANKS, BLANKS, BLANKS, BLANKS};
            five[at / 4] = five[at / 4] & ~(255 << 24 - at % 4 * 8) | '$' << 24 - at % 4 * 8;
            TakeOver x = new TakeOver();
            Due.is("8: twenty", x.feed(five[0], five[1], five[2], five[3], five[4]), 20);
            Due.is("8: byte " + at, x.text(), NONE);
            Due.is("8: byte " + at, x.fault(1), at);
        }
        TakeOver x = new TakeOver();
        x.feed(0x74616b65, 0x206c6561, 0x76653b74, 0x616b653b, 0x6c656176);
        Due.is("8: 'take leave;take;leav'", x.text(), NONE);
        Due.is("8: what can't stand there", x.fault(1), 5);
        Due.is("8: 'leave'", x.feed(0x6c656176, 0x653b2020, BLANKS, BLANKS, BLANKS), 20);
        Due.is("8: 'leave'", x.text(), 1);
        for (int sign : new int[] {0x80, 0xff, 0xa0, 0x8a, 0xbb}) {
            x.feed(sign << 24 | 0x202020, BLANKS, BLANKS, BLANKS, BLANKS);
            Due.is("8: a byte above 127, " + sign, x.text(), NONE);
            Due.is("8: a byte above 127, " + sign, x.fault(1), 0);
        }
    }

    private static void feedBehindTheTape() {
        TakeOver x = new TakeOver();
        Due.tape(x, "ta");
        Due.is("8: behind two bytes", x.feed(0x6b653b20, BLANKS, BLANKS, BLANKS, BLANKS), 22);
        Due.is("8: 'ta' and 'ke;'", x.text(), 1);
        Due.is("8: the tape is empty then", feedBlanks(x), 20);
        Due.yes("9: nothing of it", x.end(0));
        Due.is("8: behind nothing", feedBlanks(x), 20);
    }

    private static void end() {
        for (int length : new int[] {0, 1, 2, 19, 20, 21, 399, 400}) {
            Twin twin = new Twin(length + " bytes", () -> blanks(length));
            twin.refuses("9: end", 0, (x, n) -> x.end(n) ? 1 : 0, -1, -2, length + 1, length + 2, 401, MIN, MAX);
            twin.keeps("9: all of it", 1, x -> x.end(length) ? 1 : 0);
            for (int n = 0; n < Math.min(length, 3); n++) {
                TakeOver x = twin.make();
                Due.yes("9: one byte less", x.end(length - 1));
                Due.no("9: it has not so many any more", x.end(length));
                Due.yes("9: end(" + n + ")", x.end(Math.min(n, length - 1)));
                Due.is("9: how many it has", feedBlanks(x), Math.min(n, length - 1) + 20);
            }
        }
        for (Twin twin : ALL) {
            twin.refuses("9: end", 0, (x, n) -> x.end(n) ? 1 : 0, -1, 401, MIN, MAX);
        }
        FULL.keeps("9: all of it", 1, x -> x.end(400) ? 1 : 0);
        MIDDLE.keeps("9: all of it", 1, x -> x.end(20) ? 1 : 0);
        MIDDLE.refuses("9: more than it has", 0, (x, n) -> x.end(n) ? 1 : 0, 21, 22, 400);
    }

    private static void endKeepsTheFirst() {
        String text = "take;leave;take;leave;";
        for (int n = 0; n <= text.length(); n++) {
            TakeOver x = new TakeOver();
            Due.tape(x, text);
            Due.yes("9: end(" + n + ")", x.end(n));
            int[] behindLine = {0, 5, 11, 16, 22};
            int lines = NONE;
            for (int i = 0; i < behindLine.length; i++) {
                lines = n == behindLine[i] ? i : lines;
            }
            Due.is("9: its first " + n + " bytes alone", x.text(), lines);
        }
    }

    private static void textIsTheLaw() {
        TakeOver x = Twin.makeMiddle();
        Due.is("29: the law of before", x.look(7), 1);
        Due.is("10: 'leave when weight<7;'", x.text(), 1);
        Due.is("11: no fault any more", x.fault(0), 0);
        Due.is("11: no place any more", x.fault(1), NONE);
        Due.is("10: the tape is empty then: an empty law", x.text(), 0);
        Due.is("29: no lines", x.look(7), 0);
        Due.is("11: no fault", x.fault(0), 0);
        for (int lines = 0; lines <= 16; lines++) {
            good("take;".repeat(lines), lines);
            good("leave when 1=1;".repeat(lines), lines);
        }
        bad("take;".repeat(17), 3, 80);
        bad("leave when 1=1;".repeat(17), 3, 240);
    }

    private static void textWithAFault() {
        Twin.Recipe faulty = () -> {
            TakeOver x = Twin.makeMiddle();
            x.end(0);
            Due.law(x, "take; take; take  when");
            Due.tape(x, "leave when weight<7;");
            return x;
        };
        Twin twin = new Twin("a fault at the end, place 22", faulty);
        Due.is("11: fault(1)", twin.make().fault(1), 22);
        // but for the fault and the tape all is as it was: the law as well
        for (int part : new int[] {1, 2, 3, 4, 7}) {
            long[] due = Twin.see(part == 7 ? sameFault() : Twin.makeMiddle(), part);
            long[] got = Twin.see(twin.make(), part);
            Due.yes("10: it stays as it was, part " + part, java.util.Arrays.equals(due, got));
        }
        TakeOver x = faulty.make();
        Due.is("29: the law stays", x.look(7), 1);
        x.end(0);
        Due.is("10: the tape was emptied by the fault", feedBlanks(x), 20);
    }

    /** As the midst is, but that the fault is told at place 22. */
    private static TakeOver sameFault() {
        TakeOver x = Twin.makeMiddle();
        x.end(0);
        Due.law(x, " ".repeat(22) + "$");
        return x;
    }

    private static void textOfAFullTape() {
        String ors = " or 1=2".repeat(54);
        String full = "leave when 1=2" + ors + "       ;";
        Due.is("a text of 400 signs", full.length(), 400);
        good(full, 1);
        bad(full.substring(0, 399), 1, 399);
        bad(full.substring(0, 399) + "$", 1, 399);
        bad(full.substring(0, 399) + " ", 1, 400);
        good(full.substring(1).replaceFirst("eave", "take"), 1);
        good(" ".repeat(400), 0);
        good("\n".repeat(395) + "take;", 1);
        bad(" ".repeat(396) + "take", 1, 400);
        bad(" ".repeat(399) + "t", 1, 399);
        bad("(".repeat(400), 1, 0);
        bad("9".repeat(400), 1, 0);
        bad("a".repeat(400), 1, 0);
        bad("take when " + "(".repeat(390), 3, 18);
        bad("take when " + "9".repeat(390), 1, 10);
    }

    private static void faultOfTheLatest() {
        for (Twin twin : ALL) {
            twin.refuses("11: fault", NONE, (x, what) -> x.fault(what), -1, 2, 3, MIN, MAX);
        }
        TakeOver x = new TakeOver();
        Due.is("11: before any text", x.fault(0), 0);
        Due.is("11: before any text", x.fault(1), NONE);
        Due.law(x, "take when 1/0=1;");
        Due.is("11: a part by 0", x.fault(0), 2);
        Due.is("11: its place", x.fault(1), 12);
        feedBlanks(x);
        x.end(3);
        x.hours(1);
        x.image(true);
        Due.is("11: till the next text()", x.fault(0), 2);
        x.end(0);
        Due.law(x, ";");
        Due.is("11: the latest", x.fault(0), 1);
        Due.is("11: place 0", x.fault(1), 0);
        x.image(false);
        Due.is("11: the image has none of it", x.fault(0), 1);
        x.bridges(2);
        Due.is("11: bridges leave it", x.fault(0), 1);
        Due.is("11: bridges leave it", x.fault(1), 0);
        Due.law(x, "");
        Due.is("11: none any more", x.fault(0), 0);
        Due.is("11: none any more", x.fault(1), NONE);
    }

    private static boolean isBlank(int c) {
        return c == 32 || c == 10;
    }

    private static boolean isLetter(int c) {
        return c >= 'a' && c <= 'z' || c >= 'A' && c <= 'Z';
    }

    private static boolean isDigit(int c) {
        return c >= '0' && c <= '9';
    }

    private static void everySignFirst() {
        for (int c = 0; c < 256; c++) {
            String sign = String.valueOf((char) c);
            if (isBlank(c)) {
                good(sign, 0);
                good(sign + "take;", 1);
            } else {
                bad(sign, 1, 0);
                bad(sign + " take;", 1, 0);
                bad("take;" + sign, 1, 5);
            }
        }
    }

    /** Letters go together with the word, all else begins something new. */
    private static void everySignBehindAWord() {
        for (int c = 0; c < 256; c++) {
            String text = "take" + (char) c + ";";
            if (isBlank(c)) {
                good(text, 1);
            } else if (isLetter(c)) {
                bad(text, 1, 0);
            } else if (c == ';') {
                bad(text, 1, 5);
            } else {
                bad(text, 1, 4);
            }
        }
    }

    /** Digits go together with the number, a sign that goes on with a reckoning is missed at ';'. */
    private static void everySignBehindANumber() {
        for (int c = 0; c < 256; c++) {
            String text = "take when 1=12" + (char) c + ";";
            if (isBlank(c) || isDigit(c)) {
                good(text, 1);
            } else if (c == ';' || c == '+' || c == '-' || c == '*' || c == '/') {
                bad(text, 1, 15);
            } else {
                bad(text, 1, 14);
            }
        }
    }

    /** Of all signs just three compare, four reckon, and two are blanks between. */
    private static void everySignBetween() {
        for (int c = 0; c < 256; c++) {
            String text = "take when 1" + (char) c + "2 = 3;";
            if (c == '+' || c == '-' || c == '*' || c == '/' || isDigit(c)) {
                good(text, 1);
            } else if (c == '<' || c == '=' || c == '>') {
                bad(text, 1, 14);
            } else if (isBlank(c)) {
                bad(text, 1, 12);
            } else {
                bad(text, 1, 11);
            }
        }
        for (int c = 0; c < 256; c++) {
            String text = "take when weight" + (char) c + "room;";
            if (c == '<' || c == '=' || c == '>') {
                good(text, 1);
            } else if (c == '+' || c == '-' || c == '*') {
                bad(text, 1, 21);
            } else if (c == '/' || isBlank(c)) {
                bad(text, 1, 17);
            } else if (isLetter(c)) {
                bad(text, 1, 10);
            } else {
                bad(text, 1, 16);
            }
        }
    }

    private static void keywordsByOneLetter() {
        for (String word : FACTS) {
            good("take when " + word + "=1;", 1);
            good("take when 1=" + word + ";", 1);
            good("take when 1+" + word + "*" + word + "=1-" + word + "/1;", 1);
            for (String other : spoilt(word)) {
                bad("take when " + other + "=1;", 1, 10);
                bad("take when 1=" + other + ";", 1, 12);
            }
        }
        for (String other : spoilt("take")) {
            bad(other + ";", 1, 0);
        }
        for (String other : spoilt("leave")) {
            bad(other + ";", 1, 0);
        }
        for (String other : spoilt("when")) {
            bad("take " + other + " 1=1;", 1, 5);
        }
        for (String other : spoilt("or")) {
            bad("take when 1=1 " + other + " 1=1;", 1, 14);
        }
        for (String other : spoilt("and")) {
            bad("take when 1=1 " + other + " 1=1;", 1, 14);
        }
        for (String other : spoilt("not")) {
            bad("take when " + other + " 1=1;", 1, 10);
        }
    }

    /** A word without its last or first letter, with one more, with another one, with a capital. */
    private static String[] spoilt(String word) {
        String less = word.substring(0, word.length() - 1);
        return new String[] {less, word.substring(1), word + "s", "a" + word, word + word, less + "q",
            "q" + word.substring(1), word.toUpperCase(), less + word.toUpperCase().charAt(word.length() - 1),
            word.toUpperCase().charAt(0) + word.substring(1)};
    }

    private static void keywordsStandTogether() {
        bad("takewhen 1=1;", 1, 0);
        good("take when 1=1or 2=2;", 1);
        bad("take when 1=1or2=2and3=;", 1, 23);
        good("take when 1=1or2=2and3=3;", 1);
        bad("take when weight=roomor 1=1;", 1, 17);
        good("take when not(1=1);", 1);
        bad("take when notweight=1;", 1, 10);
        good("take when not1=1;", 1);
        bad("ta ke;", 1, 0);
        bad("take when 1=1 a nd 2=2;", 1, 14);
        good("\ntake\n\n \nwhen\n1\n=\n1\n;\n", 1);
        for (String word : WORDS) {
            if (!word.equals("not")) {
                bad("take when " + word + " 1=1;", 1, 10);
            }
            bad("take when 1<" + word + " 1=1;", 1, 12);
            bad("take when 1+" + word + " 1=1;", 1, 12);
            bad("take when 1/" + word + " 1=1;", 1, 12);
            bad("take when 1 " + word + " 1=1;", 1, 12);
        }
        for (String word : FACTS) {
            bad(word + ";", 1, 0);
            bad("take " + word + ";", 1, 5);
            bad("take when 1=1 " + word + ";", 1, 14);
            bad("take when 1/" + word + "=1;", 1, 12);
            bad("take when " + word + ";", 1, 10 + word.length());
        }
    }

    private static void numbers() {
        for (String digits : new String[] {"0", "9", "00", "10", "99", "000", "999", "0000", "0001", "9999"}) {
            good("take when " + digits + "=" + digits + ";", 1);
            good("take when weight/9=" + digits + ";", 1);
        }
        for (String digits : new String[] {"00000", "00001", "10000", "12345", "99999", "000000", "2147483648"}) {
            bad("take when " + digits + "=1;", 1, 10);
            bad("take when 1=" + digits + ";", 1, 12);
            bad("take when 1/" + digits + "=1;", 1, 12);
        }
        for (String digits : new String[] {"1", "9", "01", "10", "001", "100", "0001", "1000", "9999"}) {
            good("take when 1/" + digits + "=1;", 1);
            good("take when 1=1 / " + digits + ";", 1);
        }
        for (String digits : new String[] {"0", "00", "000", "0000"}) {
            bad("take when 1/" + digits + "=1;", 2, 12);
            bad("take when 1=1 / " + digits + ";", 2, 16);
            bad("take when 1/\n " + digits + " $", 2, 14);
            good("take when 1*" + digits + "=1;", 1);
        }
    }

    /** Every text cut short: what is missed is missed at its end, blanks counted. */
    private static void theEnd() {
        String text = "take when not ( weight + 1 * 2 / 3 - 4 < room ) and own = 5 or heap > 6 ;";
        String[] tokens = text.split(" ");
        StringBuilder told = new StringBuilder();
        for (int i = 0; i + 1 < tokens.length; i++) {
            told.append(tokens[i]);
            bad(told.toString(), 1, told.length());
            bad(told + " ", 1, told.length() + 1);
            bad(told + " \n ", 1, told.length() + 3);
            told.append(" ");
        }
        good(text, 1);
        good(text + " \n ", 1);
        bad(text + " \n take", 1, text.length() + 7);
    }
}
