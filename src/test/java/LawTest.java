/** Promises 10 and 11, and the law at work. */
public final class LawTest {
    public static void main(String[] args) {
        goodTexts();
        faults();
        faultsOfDepth();
        faultsOfLines();
        lawStaysWhenFaulty();
        oneTextBehindAnother();
        sixteenLines();
        conditions();
        lines();
        Due.end();
    }

    private static void good(String text, int lines) {
        TakeOver x = new TakeOver();
        Due.is("10: \"" + text + "\"", Due.law(x, text), lines);
        Due.is("11: fault(0)", x.fault(0), 0);
        Due.is("11: fault(1)", x.fault(1), -1);
        Due.is("29: look(7)", x.look(7), lines);
        Due.is("10: the tape is empty", x.feed(0, 0, 0, 0, 0), 20);
    }

    private static void bad(String text, int fault, int place) {
        TakeOver x = new TakeOver();
        Due.is("10: \"" + text + "\"", Due.law(x, text), -1);
        Due.is("11: fault(0) of \"" + text + "\"", x.fault(0), fault);
        Due.is("11: fault(1) of \"" + text + "\"", x.fault(1), place);
        Due.is("11: fault(2)", x.fault(2), -1);
        Due.is("11: fault(-1)", x.fault(-1), -1);
        Due.is("10: the tape is empty", x.feed(0, 0, 0, 0, 0), 20);
    }

    private static void goodTexts() {
        good("", 0);
        good(" \n ", 0);
        good("take;", 1);
        good("take ; leave\n;", 2);
        good("take when weight<3;", 1);
        good("take when 1=1or 2=2and 3=3;", 1);
        good("take when(1=1);", 1);
        good("leave when not(room>since or heap<own)and hour=trips;", 1);
        good("take when weight*2/3+1-room > 9999;leave;", 2);
        good("take when 0001=1;", 1);
        good("take when 1=1and(not 2=3or(1<2));", 1);
        good("take when weight/10/2*3=0;", 1);
    }

    private static void faults() {
        bad("take", 1, 4);
        bad("take  ", 1, 6);
        bad("when", 1, 0);
        bad(";", 1, 0);
        bad("take;;", 1, 5);
        bad("take;5", 1, 5);
        bad("taker;", 1, 0);
        bad("takeX;", 1, 0);
        bad("takea;", 1, 0);
        bad("takez;", 1, 0);
        bad("takeA;", 1, 0);
        bad("takeZ;", 1, 0);
        bad("take@;", 1, 4);
        bad("take[;", 1, 4);
        bad("take`;", 1, 4);
        bad("take{;", 1, 4);
        bad("take when 1:=1;", 1, 11);
        bad("take when 1<2/1/0;", 2, 16);
        bad("Take;", 1, 0);
        bad("take when;", 1, 9);
        bad("take when", 1, 9);
        bad("take weight<1;", 1, 5);
        bad("take when 1;", 1, 11);
        bad("take when 1<;", 1, 12);
        bad("take when 1<2", 1, 13);
        bad("take when 1<2<3;", 1, 13);
        bad("take when 1<2 3;", 1, 14);
        bad("take when (1)<2;", 1, 12);
        bad("take when (1<2;", 1, 14);
        bad("take when (1<2", 1, 14);
        bad("take when 1<2);", 1, 13);
        bad("take when (1<2))", 1, 15);
        bad("take when ();", 1, 11);
        bad("take when not;", 1, 13);
        bad("take when 1<not 2;", 1, 12);
        bad("take when 1<(2);", 1, 12);
        bad("take when 1+(2)<3;", 1, 12);
        bad("take when -1<2;", 1, 10);
        bad("take when 1/weight<2;", 1, 12);
        bad("take when 1/0<2;", 2, 12);
        bad("take when 1/ 0000<2;", 2, 13);
        bad("take when 1/00000<2;", 1, 12);
        bad("take when 1<2/0;", 2, 14);
        bad("take when 1/0", 2, 12);
        bad("take when 1/0 $", 2, 12);
        bad("take $ when 1/0", 1, 5);
        bad("take when 12345<2;", 1, 10);
        bad("take when 1<2 and;", 1, 17);
        bad("take when 1<2 or or 1<2;", 1, 17);
        bad("take when (1<2) + 3 < 4;", 1, 16);
        bad("take when (1<2) not 3 < 4;", 1, 16);
        bad("take\twhen 1=1;", 1, 4);
        bad("take\rwhen 1=1;", 1, 4);
        bad("take when wei ght=1;", 1, 10);
        bad("take when 1 2=3;", 1, 12);
        bad("take when 1<=2;", 1, 12);
        bad("take when weight and 1=1;", 1, 17);
        bad("take when weight);", 1, 16);
        bad("take take;", 1, 5);
        bad("take when take;", 1, 10);
        bad("take" + (char) 233 + ";", 1, 4);
    }

    private static void faultsOfDepth() {
        good("take when " + "(".repeat(8) + "1=1" + ")".repeat(8) + ";", 1);
        good("take when " + "not ".repeat(8) + "1=1;", 1);
        bad("take when " + "(".repeat(9) + "1=1" + ")".repeat(9) + ";", 3, 18);
        bad("take when " + "not ".repeat(9) + "1=1;", 3, 42);
        bad("take when " + "not(".repeat(4) + "(1=1", 3, 26);
        good("take when " + "not 1=1 and ".repeat(20) + "not(2=2);", 1);
        good("take when " + "(1=1) or ".repeat(20) + "not(2=2);", 1);
        good("take when " + "not(1=1) or ".repeat(12) + "((((((((2=2))))))));", 1);
        bad("take when not(1=1) or " + "(".repeat(9), 3, 30);
        bad("take when (not 1=1 and " + "(".repeat(8), 3, 30);
        bad("take when (not 1=1 and " + "(".repeat(7) + ")", 1, 30);
        bad("take when " + "(".repeat(8) + "1<(2)", 1, 20);
        bad("take when " + "(".repeat(8) + ";", 1, 18);
        good("take when not not (not not (1=1)) and " + "not ".repeat(8) + "1=1;", 1);
        good("take when ((((((((1=1or 2=2and 3=3or not4=4))))))));".replace("not4", "4"), 1);
    }

    private static void faultsOfLines() {
        good("take;".repeat(16), 16);
        good("leave when 1=1;".repeat(16), 16);
        bad("take;".repeat(17), 3, 80);
        bad("take;".repeat(16) + " leave when", 3, 81);
        bad("take;".repeat(16) + "when", 1, 80);
        bad("take;".repeat(15) + "take when 1/0;leave;", 2, 87);
    }

    private static void lawStaysWhenFaulty() {
        TakeOver x = new TakeOver();
        Due.law(x, "leave;leave;");
        Due.is("10: a fault", Due.law(x, "take;take;take"), -1);
        Due.is("10: it stays", x.look(7), 2);
        x.load(1, 0, 0);
        x.crosser(0, 0, 0, 9, 0, 0);
        Due.is("10: it stays", x.hours(1), 0);
        Due.is("10: anew", Due.law(x, "take;"), 1);
        Due.is("11: no fault any more", x.fault(0), 0);
        Due.is("11: no fault any more", x.fault(1), -1);
        Due.is("10: an empty text is the law", Due.law(x, ""), 0);
        Due.is("10: no lines", x.look(7), 0);
    }

    /** What one text left open, or put, is not there for the next. */
    private static void oneTextBehindAnother() {
        TakeOver x = new TakeOver();
        String deep = "leave when " + "(".repeat(8) + "1=1" + ")".repeat(8) + ";";
        String longer = "leave when 1=2" + " or 1=2".repeat(50) + ";";
        for (int i = 0; i < 12; i++) {
            Due.is("10: left open", Due.law(x, "take when not(not((1+2*3<4"), -1);
            Due.is("10: as deep as can be", Due.law(x, deep), 1);
            Due.is("10: left open", Due.law(x, "take when ("), -1);
            Due.is("10: a bracket too many", Due.law(x, "take when 1=1);"), -1);
            Due.is("10: a long text", Due.law(x, longer), 1);
        }
        Due.is("10: left open", Due.law(x, "take when not"), -1);
        Due.is("10: a short one", Due.law(x, "leave when weight=2;"), 1);
        x.load(2, 0, 0);
        x.load(3, 0, 0);
        x.crosser(0, 0, 0, 9, 0, 0);
        Due.is("10: it is the law", x.hours(1), 1);
        Due.is("10: it is the law", x.book(0, 0), 1);
    }

    private static void sixteenLines() {
        TakeOver x = new TakeOver();
        StringBuilder text = new StringBuilder();
        for (int i = 1; i <= 14; i++) {
            text.append("leave when weight=").append(2 * i).append(";");
        }
        text.append("take when weight=29;leave when weight>28;");
        Due.is("10: sixteen lines", Due.law(x, text.toString()), 16);
        for (int i = 1; i <= 30; i++) {
            x.load(i, 0, 0);
        }
        int at = 0;
        for (int i = 0; i < 8; i++) {
            x.crosser(0, 0, 0, 99, 0, 0);
        }
        Due.is("10: all odd ones", x.hours(1), 15);
        for (int weight = 1; weight <= 30; weight++) {
            Due.is("10: weight " + weight, x.of(weight - 1, 1), weight % 2);
            at += x.of(weight - 1, 1);
        }
        Due.is("10: fifteen are over", at, 15);
    }

    /** Whether a load of weight 7 is left by 'leave when B;': heap 2, own 4, hour 5, since 3, trips 0, room 20. */
    private static void left(String condition, boolean isLeft) {
        TakeOver x = new TakeOver();
        x.load(7, 0, 2);
        x.load(90, 0, 5);
        x.crosser(5, 0, 0, 24, 4, 0);
        Due.is("2: " + condition, Due.law(x, "leave when " + condition + ";"), 1);
        Due.is("2: leave when " + condition, x.hours(6), isLeft ? 0 : 1);
    }

    private static void conditions() {
        left("weight=7", true);
        left("room=20", true);
        left("since=3", true);
        left("heap=2", true);
        left("own=4", true);
        left("hour=5", true);
        left("trips=0", true);
        left("trips>0", false);
        left("weight<7", false);
        left("weight<8", true);
        left("weight>6", true);
        left("weight>7", false);
        left("weight=8", false);
        left("not weight=7", false);
        left("not not weight=7", true);
        left("not weight=8 and weight=7", true);
        left("not(weight=8 or weight=7)", false);
        left("not weight=7 or weight=7", true);
        left("weight=7 or weight=8 and weight=9", true);
        left("(weight=7 or weight=8) and weight=9", false);
        left("weight=9 and weight=8 or weight=7", true);
        left("weight=9 and (weight=8 or weight=7)", false);
        left("1+2*3=7", true);
        left("2*3+1=7", true);
        left("10-3-2=5", true);
        left("10-3+2=9", true);
        left("20/3*2=12", true);
        left("2*20/3=13", true);
        left("100/10/5=2", true);
        left("weight-room=0-13", true);
        left("0-7=0-weight", true);
        left("0-13/2=0-6", true);
        left("weight-room < 0", true);
        left("hour-room=0-15 and own-since=1", true);
        // a product that wrapped to 9999 * 9999 * 22 - 2^32 is odd by 9999: its part goes towards 0
        left("9999*9999*9999<0", true);
        left("9999*9999*43*2<0", false);
        left("9999*9999*22<0", true);
        left("9999*9999*22/2<0", true);
        left("9999*9999*22/9999=0-" + quotient(), true);
        left("1=1 and 2=2 and 3=4 or 5=5", true);
        left("1=2 or 2=3 or 3=3 and 4=4 and not 5=6", true);
        left("((((((((1=2 or 1=1 and 1+1*1<3))))))))", true);
        left("1<2 and 0=1-1 and (2>1 and (3>2 and (not 4<3 and (not(not(1=1))))))", true);
    }

    /** What the wrapped product, part by 9999, is towards 0, as 4 digits at most times 1. */
    private static String quotient() {
        int product = 9999 * 9999 * 22;
        int part = -(product / 9999);
        return part / 9999 + "*9999-" + part % 9999;
    }

    private static void lines() {
        TakeOver x = new TakeOver();
        Due.is("2: lines", Due.law(x, "leave when weight=3; take when weight<5; leave when trips=0; take;"), 4);
        x.load(3, 0, 0);
        x.load(4, 0, 0);
        x.load(6, 0, 0);
        x.crosser(0, 0, 0, 99, 0, 0);
        Due.is("2: by the first line that is so", x.hours(1), 1);
        Due.is("2: the one of weight 4", x.book(0, 0), 1);
        Due.is("2: without one he takes it", Due.law(x, "leave when weight=6;"), 1);
        x.crosser(1, 0, 0, 99, 0, 0);
        Due.is("2: without one he takes it", x.hours(1), 1);
        Due.is("2: the one of weight 3", x.book(1, 0), 0);
        roomGoesDown();
        heapStays();
        tripsCount();
    }

    private static void roomGoesDown() {
        TakeOver x = new TakeOver();
        Due.law(x, "leave when room<10;");
        x.load(4, 0, 0);
        x.load(3, 0, 0);
        x.load(2, 0, 0);
        x.crosser(0, 0, 0, 15, 2, 0);
        Due.is("2: room now", x.hours(1), 1);
        Due.is("2: what he bore", x.who(0, 9), 4);
    }

    private static void heapStays() {
        TakeOver x = new TakeOver();
        Due.law(x, "take when heap=3; leave;");
        x.load(4, 0, 0);
        x.load(3, 0, 0);
        x.load(90, 0, 0);
        x.crosser(0, 0, 0, 15, 2, 0);
        Due.is("2: heap as he comes", x.hours(1), 2);
    }

    private static void tripsCount() {
        TakeOver x = new TakeOver();
        Due.law(x, "leave when trips=2; leave when since<2 and trips>0;");
        x.load(4, 0, 0);
        x.crosser(0, 0, 0, 9, 0, 0);
        x.crosser(1, 0, 1, 9, 0, 0);
        x.crosser(2, 0, 1, 9, 0, 0);
        x.crosser(9, 0, 0, 9, 0, 0);
        Due.is("2: since and trips", x.hours(12), 2);
        Due.is("2: crossed back in", x.of(0, 2), 2);
        Due.is("2: trips", x.of(0, 3), 2);
    }
}
