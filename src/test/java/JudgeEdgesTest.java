/** 'Terms' 2: faults by place and kind, what is open, how a law reckons and judges, each at its bounds. */
public final class JudgeEdgesTest {
    private static final int NONE = TakeOver.NONE;

    public static void main(String[] args) {
        everyMixOfOpenOnes();
        openOnesAreClosed();
        linesAndTheirFault();
        theFirstFault();
        theLeastAtOnePlace();
        compare();
        reckon();
        wrap();
        towardsZero();
        bindAndJoin();
        factsByOne();
        factsOfARun();
        firstLineThatIsSo();
        sixteenthLine();
        Due.end();
    }

    private static void fault(String text, int fault, int place) {
        TakeOver x = new TakeOver();
        Due.is("10: \"" + text + "\"", Due.law(x, text) == NONE ? 1 : 0, fault == 0 ? 0 : 1);
        Due.is("11: fault(0) of \"" + text + "\"", x.fault(0), fault);
        Due.is("11: fault(1) of \"" + text + "\"", x.fault(1), place);
    }

    /** Eight open ( and not in any mix can be, nine can't: the ninth is told where it stands. */
    private static void everyMixOfOpenOnes() {
        for (int count = 7; count <= 10; count++) {
            for (int mix = 0; mix < 1 << count; mix++) {
                StringBuilder text = new StringBuilder("take when ");
                int ninth = NONE;
                for (int i = 0; i < count; i++) {
                    ninth = i == 8 ? text.length() : ninth;
                    text.append((mix >> i & 1) == 1 ? "(" : "not ");
                }
                text.append("1=1").append(")".repeat(Integer.bitCount(mix))).append(";");
                fault(text.toString(), count <= 8 ? 0 : 3, ninth);
            }
        }
    }

    private static void openOnesAreClosed() {
        String eight = "((((((((1=1))))))))";
        String nots = "not not not not not not not not 1=1";
        for (String joint : new String[] {" and ", " or "}) {
            fault("take when " + eight + joint + eight + joint + nots + joint + eight + ";", 0, NONE);
            fault("take when " + nots + joint + nots + joint + eight + ";", 0, NONE);
            // beside a bracket that is still open just seven more
            fault("take when (1=1" + joint + "(((((((1=1))))))));", 0, NONE);
            int place = ("take when (1=1" + joint).length() + 8 - 1;
            fault("take when (1=1" + joint + "((((((((1=1)))))))));", 3, place);
            // a not ends with what it stands before
            fault("take when not 1=1" + joint + eight + ";", 0, NONE);
            fault("take when not (1=1)" + joint + eight + ";", 0, NONE);
            fault("take when not (1=1" + joint + "((((((2=2)))))));", 0, NONE);
            fault("take when not (1=1" + joint + "(((((((2=2))))))));", 3, ("take when not (1=1" + joint).length() + 6);
            fault("take when not not (1=1)" + joint + "(not 2=2" + joint + nots.substring(4) + ");", 0, NONE);
            fault("take when not not (1=1)" + joint + "(not 2=2" + joint + nots + ");", 3,
                    ("take when not not (1=1)" + joint + "(not 2=2" + joint).length() + 28);
        }
        fault("take when " + eight + ";take when " + eight + ";", 0, NONE);
        fault("take when " + "(1=1) and ".repeat(30) + "2=2;", 0, NONE);
        fault("take when " + "not 1=1 or ".repeat(30) + "2=2;", 0, NONE);
        // closed once more than opened
        fault("take when " + eight + ");", 1, 29);
        fault("take when ((1=1);", 1, 16);
        fault("take when (1=1));", 1, 15);
    }

    private static void linesAndTheirFault() {
        fault("take;".repeat(15) + "leave;", 0, NONE);
        fault("take;".repeat(16) + "leave;", 3, 80);
        fault("take;".repeat(16) + " \n leave", 3, 83);
        fault("take;".repeat(16) + "leaves", 1, 80);
        fault("take;".repeat(16) + ";", 1, 80);
        fault("take;".repeat(16) + "when", 1, 80);
        fault("take;".repeat(16) + "   ", 0, NONE);
        fault("take;".repeat(15) + "take", 1, 79);
        fault("take;".repeat(15) + "take take;", 1, 80);
    }

    private static void theFirstFault() {
        fault("take when 1/0=1; $", 2, 12);
        fault("take $ when 1/0=1;", 1, 5);
        fault("take when 12345/0=1;", 1, 10);
        fault("take when 1/0/12345=1;", 2, 12);
        fault("take;".repeat(15) + "take when 1/0=1;take;", 2, 87);
        fault("take;".repeat(16) + "take when 1/0=1;", 3, 80);
        fault("take when " + "(".repeat(9) + "1/0=1", 3, 18);
        fault("take when 1/0=1 and " + "(".repeat(9), 2, 12);
        fault("take when " + "(".repeat(8) + "1/0=1", 2, 20);
        fault("take when " + "(".repeat(7) + "$(", 1, 17);
    }

    /** A ( or not where none can stand is fault 1, though it would be the ninth. */
    private static void theLeastAtOnePlace() {
        String eight = "take when " + "(".repeat(8);
        fault(eight + "1(", 1, 19);
        fault(eight + "1=(", 1, 20);
        fault(eight + "1=1(", 1, 21);
        fault(eight + "1+(", 1, 20);
        fault(eight + "1/(", 1, 20);
        fault(eight + "1=not", 1, 20);
        fault(eight + "1=1not", 1, 21);
        fault(eight + "1=1)(", 1, 22);
        fault(eight + "not", 3, 18);
        fault(eight + "1=1 and not", 3, 26);
        fault(eight + "1=1 or (", 3, 25);
        fault(eight + "1=1) or (", 1, 27);
        // a part by what is no number is not a part by 0
        fault("take when 1/00000=1;", 1, 12);
        fault("take when 1/-0=1;", 1, 12);
    }

    /** Whether a load of weight 7 is left by 'leave when B;': heap 2, own 4, hour 5, since 3, trips 0, room 20. */
    private static void is(String condition, boolean so) {
        TakeOver x = new TakeOver();
        x.load(7, 0, 2);
        x.load(90, 0, 5);
        x.crosser(5, 0, 0, 24, 4, 0);
        Due.is("T2: " + condition, Due.law(x, "leave when " + condition + ";"), 1);
        Due.is("T2: leave when " + condition, x.hours(6), so ? 0 : 1);
        x.bridges(1);
        x.load(7, 0, 2);
        x.load(90, 0, 5);
        x.crosser(5, 0, 0, 24, 4, 0);
        Due.is("T2: " + condition, Due.law(x, "take when " + condition + ";leave;"), 2);
        Due.is("T2: take when " + condition, x.hours(6), so ? 1 : 0);
    }

    private static void compare() {
        int[][] pairs = {{0, 0}, {0, 1}, {1, 0}, {9999, 9999}, {9998, 9999}, {9999, 9998}, {7, 7}};
        for (int[] p : pairs) {
            is(p[0] + "<" + p[1], p[0] < p[1]);
            is(p[0] + "=" + p[1], p[0] == p[1]);
            is(p[0] + ">" + p[1], p[0] > p[1]);
            is("0-" + p[0] + "<0-" + p[1], p[0] > p[1]);
            is("0-" + p[0] + "=0-" + p[1], p[0] == p[1]);
            is("0-" + p[0] + ">0-" + p[1], p[0] < p[1]);
        }
    }

    private static void reckon() {
        is("1-2=0-1", true);
        is("1-2-3=0-4", true);
        is("1-2+3=2", true);
        is("1+2-3=0", true);
        is("2*3*4=24", true);
        is("24/2/3=4", true);
        is("24/2*3=36", true);
        is("24*2/3=16", true);
        is("7/2*2=6", true);
        is("2*7/2=7", true);
        is("1/2=0", true);
        is("1/1=1", true);
        is("9999/9999=1", true);
        is("9998/9999=0", true);
        is("1+2*3-8/4=5", true);
        is("10-2*3=4", true);
        is("10-6/3=8", true);
        is("0001*0010=10", true);
        is("0*9999=0", true);
        is("0/7=0", true);
    }

    /** 8192 * 8192 * 16 is two to the thirtieth. */
    private static void wrap() {
        String power30 = "8192*8192*16";
        is(power30 + "-1+" + power30 + ">0", true);
        is(power30 + "-1+" + power30 + "+1<0", true);
        is(power30 + "+" + power30 + "<0", true);
        is(power30 + "+" + power30 + "-1>0", true);
        is("0-" + power30 + "-" + power30 + "<0", true);
        is("0-" + power30 + "-" + power30 + "-1>0", true);
        is("0-" + power30 + "-" + power30 + "=" + power30 + "+" + power30, true);
        is(power30 + "*2<0", true);
        is(power30 + "*2-1=" + power30 + "-1+" + power30, true);
        is(power30 + "*4=0", true);
        is(power30 + "*4+7=weight", true);
        is(power30 + "*3=0-" + power30, true);
        is("256*256*256*256=0", true);
        is("256*256*256*255<0", true);
        is(power30 + "*2>" + power30, false);
        is(power30 + "*2<" + power30, true);
        is(power30 + "*2<0-" + power30, true);
    }

    /** The least int, and one more and less of it, part by numbers that do not go into it. */
    private static void towardsZero() {
        String least = "8192*8192*32";
        is(least + "/9999=0-9999*21-4790", true);
        is(least + "/9999=0-9999*21-4791", false);
        is(least + "/1=" + least, true);
        is(least + "/2=0-8192*8192*16", true);
        is(least + "/3<0-8192*8192*10", true);
        // 9999 * 9999 * 22 wraps to - 2095407274: part by 7 it is - 299343896 with a rest of - 2
        is("9999*9999*22/7=0-9999*2993*10-9999*7-3833", true);
        is("9999*9999*22/7=0-9999*2993*10-9999*7-3834", false);
        // - 32 in small steps
        is("8192*8192*32/8192/8192/5=0-6", true);
        is("8192*8192*32/8192/8192/7=0-4", true);
        is("8192*8192*32/8192/8192/33=0", true);
        is("8192*8192*32/8192/8192/32=0-1", true);
        is("8192*8192*32/8192/8192/31=0-1", true);
        // what is right of a minus is part first
        is("0-7/2=0-3", true);
        is("0-1/2=0", true);
    }

    private static void bindAndJoin() {
        String t = "1=1";
        String f = "1=2";
        String[] both = {f, t};
        for (int bits = 0; bits < 8; bits++) {
            boolean a = (bits & 1) == 1;
            boolean b = (bits & 2) == 2;
            boolean c = (bits & 4) == 4;
            String p = both[bits & 1];
            String q = both[bits >> 1 & 1];
            String r = both[bits >> 2 & 1];
            is(p + " or " + q + " and " + r, a || b && c);
            is(p + " and " + q + " or " + r, a && b || c);
            is("(" + p + " or " + q + ") and " + r, (a || b) && c);
            is(p + " and (" + q + " or " + r + ")", a && (b || c));
            is("not " + p + " and " + q + " or " + r, !a && b || c);
            is("not " + p + " or " + q + " and " + r, !a || b && c);
            is("not (" + p + " or " + q + ") and " + r, !(a || b) && c);
            is("not (" + p + " and " + q + ") or " + r, !(a && b) || c);
            is(p + " and not " + q + " and " + r, a && !b && c);
            is(p + " or not " + q + " or " + r, a || !b || c);
            is("not not " + p + " and not not not " + q, a && !b);
            is("not (not " + p + " or not (" + q + " and not " + r + "))", !(!a || !(b && !c)));
        }
    }

    private static void factsByOne() {
        String[] facts = {"weight", "room", "since", "heap", "own", "hour", "trips"};
        int[] due = {7, 20, 3, 2, 4, 5, 0};
        for (int i = 0; i < facts.length; i++) {
            is(facts[i] + "=" + due[i], true);
            is(facts[i] + "<" + due[i], false);
            is(facts[i] + ">" + due[i], false);
            is(facts[i] + "=" + (due[i] + 1), false);
            is(facts[i] + "<" + (due[i] + 1), true);
            is(facts[i] + "+1>" + due[i], true);
            is(facts[i] + "-" + due[i] + "=0", true);
            is(facts[i] + "*" + facts[i] + "=" + due[i] * due[i], true);
            is("2*" + facts[i] + "/2=" + due[i], true);
        }
    }

    /** What the next load would see: the law leaves all but those of which the condition is so. */
    private static void factsOfARun() {
        sees("room=99", 99, 0, 1, 0);
        sees("room=0", 0, 0, 0, 0);
        sees("own=99", 99, 99, 0, 0);
        sees("room=1", 99, 98, 1, 0);
        sees("hour=0", 9, 0, 1, 0);
        sees("hour=167", 9, 0, 1, 167);
        sees("since=0", 9, 0, 1, 167);
        sees("since>0", 9, 0, 0, 167);
        sees("heap=1", 9, 0, 1, 3);
        sees("heap=0", 9, 0, 0, 3);
        TakeOver x = new TakeOver();
        x.load(1, 0, 0);
        x.crosser(167, 0, 0, 1, 0, 0);
        Due.law(x, "take when since=167 and hour=167 and heap=1 and trips=0;leave;");
        Due.is("T2: since the first hour, in the last", x.hours(168), 1);
        x.bridges(1);
        for (int i = 0; i < 30; i++) {
            x.load(1, 0, 0);
        }
        x.crosser(0, 0, 0, 99, 0, 0);
        Due.law(x, "take when heap=30 and room>69;leave;");
        Due.is("T2: heap stays as he comes, room goes down to 70", x.hours(1), 30);
        x.bridges(1);
        x.load(1, 0, 0);
        for (int i = 0; i < 20; i++) {
            x.crosser(0, 0, i % 2, 1, 0, 0);
        }
        Due.law(x, "leave when trips=19;");
        Due.is("T2: trips, one below twenty", x.hours(1), 19);
    }

    /** A load of weight 1 is left in an hour and is borne in it by one who bears and has so much, if it is so. */
    private static void sees(String condition, int bears, int own, int due, int hour) {
        TakeOver x = new TakeOver();
        Due.law(x, "take when " + condition + ";leave;");
        x.load(1, 0, hour);
        x.crosser(hour, 0, 0, bears, own, 0);
        Due.is("T2: " + condition, x.hours(hour + 1), due);
    }

    private static void firstLineThatIsSo() {
        String[] laws = {"", "take;", "leave;", "take;leave;", "leave;take;", "leave when 1=2;", "take when 1=2;",
            "take when 1=2;leave;", "leave when 1=2;take;leave;", "leave when 1=1;take;", "take when 1=1;leave;",
            "leave when 1=2;leave when 1=2;", "leave when 1=2;leave when 1=1;take;"};
        int[] due = {1, 1, 0, 1, 0, 1, 1, 0, 1, 0, 1, 1, 0};
        for (int i = 0; i < laws.length; i++) {
            TakeOver x = new TakeOver();
            x.load(1, 0, 0);
            x.crosser(0, 0, 0, 1, 0, 0);
            Due.law(x, laws[i]);
            Due.is("T2: by the law " + laws[i], x.hours(1), due[i]);
        }
    }

    private static void sixteenthLine() {
        for (int line = 1; line <= 16; line++) {
            TakeOver x = new TakeOver();
            x.load(1, 0, 0);
            x.load(2, 0, 0);
            x.crosser(0, 0, 0, 9, 0, 0);
            String text = "take when 1=2;".repeat(line - 1) + "leave when weight=2;" + "take;".repeat(16 - line);
            Due.is("10: sixteen lines", Due.law(x, text), 16);
            Due.is("T2: by line " + line, x.hours(1), 1);
            Due.is("T2: by line " + line, x.of(1, 1), 0);
        }
    }
}
