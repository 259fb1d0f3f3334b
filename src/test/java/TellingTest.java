/** Promises 1 to 9, 22, 25, 29: what can be told, and what can't. */
public final class TellingTest {
    private static final int MIN = Integer.MIN_VALUE;
    private static final int MAX = Integer.MAX_VALUE;

    public static void main(String[] args) {
        aNewObject();
        bridges();
        bridgesToldAnew();
        load();
        fetch();
        crosser();
        kind();
        set();
        feedAndEnd();
        offer();
        list();
        look();
        Due.end();
    }

    private static void aNewObject() {
        TakeOver x = new TakeOver();
        int[] due = {1, 0, 0, 0, 0, -1, 0, 0, 0, 0, 0};
        for (int what = 0; what < due.length; what++) {
            Due.is("1: look(" + what + ")", x.look(what), due[what]);
        }
        Due.is("1: fault(0)", x.fault(0), 0);
        Due.is("1: fault(1)", x.fault(1), -1);
        Due.is("1: fault(2)", x.fault(2), -1);
        Due.is("1: waits(0, 0)", x.waits(0, 0), -1);
        Due.is("1: of(0, 0)", x.of(0, 0), -2);
        Due.is("1: who(0, 0)", x.who(0, 0), -2);
        Due.is("1: book(0, 0)", x.book(0, 0), -1);
        Due.no("1: image(false)", x.image(false));
        Due.is("1: end 1 is there", x.load(1, 1, 0), 0);
        Due.is("1: end 2 is not there", x.load(1, 2, 0), -1);
        Due.is("NONE", TakeOver.NONE, -1);
    }

    private static void bridges() {
        TakeOver x = new TakeOver();
        int[] bad = {0, 4, -1, MIN, MAX};
        for (int n : bad) {
            Due.no("2: bridges(" + n + ")", x.bridges(n));
            Due.is("2: look(0)", x.look(0), 1);
        }
        for (int n = 1; n <= 3; n++) {
            Due.yes("2: bridges(" + n + ")", x.bridges(n));
            Due.is("2: look(0)", x.look(0), n);
            Due.is("2: the last end", x.load(1, n, 0), 0);
            Due.is("2: none beyond", x.load(1, n + 1, 0), -1);
            Due.is("2: the last bridge", x.crosser(0, n - 1, 1, 1, 0, 0), 0);
            Due.is("2: none beyond", x.crosser(0, n, 1, 1, 0, 0), -1);
        }
    }

    private static void bridgesToldAnew() {
        TakeOver x = filled();
        Due.no("2: bridges(5)", x.bridges(5));
        Due.is("2: nothing is done", x.look(1), 3);
        Due.is("2: nothing is done", x.look(2), 2);
        Due.tape(x, "leave;");
        Due.yes("2: bridges(3)", x.bridges(3));
        int[] due = {3, 0, 0, 0, 0, -1, 0, 0, 0, 0, 0};
        for (int what = 0; what < due.length; what++) {
            Due.is("2: look(" + what + ")", x.look(what), due[what]);
        }
        Due.is("2: fault(0) stays", x.fault(0), 1);
        Due.is("2: fault(1) stays", x.fault(1), 2);
        Due.is("2: the tape stays", x.text(), 1);
        Due.is("2: waits(1, 0)", x.waits(1, 0), -1);
        Due.is("2: a load is new", x.load(4, 0, 0), 0);
        Due.is("2: not left yet", x.of(0, 1), -1);
        Due.is("2: no trips", x.of(0, 3), 0);
        Due.is("2: not to be fetched", x.of(0, 5), 0);
        Due.is("2: a crosser is new", x.crosser(0, 0, 0, 9, 0, 0), 0);
        Due.is("2: not crossed", x.who(0, 8), -1);
        Due.is("2: plain", x.who(0, 6), 0);
        Due.is("2: not maybe", x.who(0, 11), 0);
        Due.is("2: bore nothing", x.who(0, 9), 0);
        Due.is("2: another crosser", x.crosser(0, 1, 0, 9, 0, 0), 1);
        Due.is("2: plain", x.who(1, 6), 0);
        Due.is("2: v", x.who(1, 7), 0);
        Due.is("2: paid nothing", x.who(1, 10), 0);
        Due.is("2: another load", x.load(4, 0, 9), 1);
        Due.is("2: not gone", x.of(1, 5), 0);
        Due.yes("2: the image stays", x.image(false));
        Due.is("2: as it was", x.look(0), 2);
        Due.is("2: as it was", x.look(1), 0);
    }

    /** Two bridges; an image at hour 0, then three hours with a load borne and a toll paid. */
    private static TakeOver filled() {
        TakeOver x = new TakeOver();
        x.bridges(2);
        x.image(true);
        x.load(3, 0, 0);
        x.load(5, 1, 0);
        x.fetch(1, 1, 2);
        x.crosser(0, 0, 0, 9, 0, 0);
        x.crosser(1, 0, 1, 9, 0, 9);
        x.kind(1, 1, 1);
        x.set(0, 0, 7);
        x.set(1, 0, 1);
        x.set(2, 0, 1);
        Due.law(x, "take;");
        Due.law(x, "a b");
        Due.law(x, "  +");
        x.offer(4, 0, 0, 5, 5);
        x.list(4, 0, 1);
        x.hours(3);
        return x;
    }

    private static void load() {
        TakeOver x = new TakeOver();
        x.bridges(3);
        int[][] bad = {{0, 0, 0}, {100, 0, 0}, {-1, 0, 0}, {MIN, 0, 0}, {MAX, 0, 0}, {1, -1, 0}, {1, 4, 0},
            {1, MAX, 0}, {1, 0, -1}, {1, 0, 168}, {1, 0, MAX}, {1, 0, MIN}};
        for (int[] b : bad) {
            Due.is("3: load(" + b[0] + ", " + b[1] + ", " + b[2] + ")", x.load(b[0], b[1], b[2]), -1);
        }
        Due.is("3: look(2)", x.look(2), 0);
        Due.is("3: load(99, 3, 167)", x.load(99, 3, 167), 0);
        Due.is("3: weight", x.of(0, 0), 99);
        Due.is("3: hour", x.of(0, 4), 167);
        x.hours(5);
        Due.is("3: an hour that went by", x.load(1, 0, 4), -1);
        Due.is("3: this hour", x.load(1, 0, 5), 1);
        for (int i = 2; i < 30; i++) {
            Due.is("3: load " + i, x.load(i, 0, 6), i);
        }
        Due.is("3: the 31st", x.load(1, 0, 6), -1);
        Due.is("3: look(2)", x.look(2), 30);
        x.hours(163);
        Due.is("3: they come by number", x.waits(0, 29), -1);
        Due.is("3: they come by number", x.waits(0, 28), 29);
        Due.is("3: they come by number", x.waits(0, 0), 1);
        Due.is("3: it came", x.waits(3, 0), 0);
        x.bridges(1);
        x.hours(168);
        Due.is("3: behind all hours", x.load(1, 0, 167), -1);
        Due.is("3: behind all hours", x.load(1, 0, 168), -1);
    }

    private static void fetch() {
        TakeOver x = new TakeOver();
        x.load(5, 0, 2);
        x.load(6, 0, 2);
        Due.no("4: fetch(-1, 0, 3)", x.fetch(-1, 0, 3));
        Due.no("4: fetch(2, 0, 3)", x.fetch(2, 0, 3));
        Due.no("4: fetch(MAX, 0, 3)", x.fetch(MAX, 0, 3));
        Due.no("4: fetch(2, NONE, 3)", x.fetch(2, -1, 3));
        Due.no("4: fetch(0, 2, 3)", x.fetch(0, 2, 3));
        Due.no("4: fetch(0, -2, 3)", x.fetch(0, -2, 3));
        Due.no("4: fetch(0, 0, -1)", x.fetch(0, 0, -1));
        Due.no("4: fetch(0, 0, 168)", x.fetch(0, 0, 168));
        Due.yes("4: fetch(0, 0, 2)", x.fetch(0, 0, 2));
        Due.yes("4: fetch(1, 0, 2)", x.fetch(1, 0, 2));
        Due.yes("4: no more", x.fetch(1, -1, -99));
        Due.is("4: hours(2)", x.hours(2), 0);
        Due.is("4: not yet", x.of(0, 5), 0);
        x.hours(1);
        Due.is("4: gone", x.of(0, 5), 1);
        Due.is("4: where it went", x.of(0, 1), 0);
        Due.is("4: since", x.of(0, 2), 2);
        Due.is("4: it waits no more", x.waits(0, 0), 1);
        Due.is("4: the other is there", x.of(1, 5), 0);
        Due.no("4: an hour that went by", x.fetch(1, 0, 2));
        Due.yes("4: told", x.fetch(1, 1, 3));
        x.hours(1);
        Due.is("4: it is not at that end", x.of(1, 5), 0);
        Due.yes("4: told anew", x.fetch(1, 0, 5));
        Due.yes("4: told anew", x.fetch(1, 0, 4));
        x.hours(1);
        Due.is("4: gone", x.of(1, 5), 1);
        Due.yes("4: no more", x.fetch(1, -1, 0));
        Due.is("4: it stays gone", x.of(1, 5), 1);
        for (int i = 2; i < 6; i++) {
            x.load(3, i % 2, 5);
            Due.yes("4: several in an hour", x.fetch(i, i % 2, 7));
        }
        x.hours(3);
        for (int i = 2; i < 6; i++) {
            Due.is("4: all gone", x.of(i, 5), 1);
        }
    }

    private static void crosser() {
        TakeOver x = new TakeOver();
        x.bridges(2);
        int[][] bad = {{-1, 0, 0, 9, 0, 0}, {168, 0, 0, 9, 0, 0}, {0, -1, 0, 9, 0, 0}, {0, 2, 0, 9, 0, 0},
            {0, 0, -1, 9, 0, 0}, {0, 0, 2, 9, 0, 0}, {0, 0, 0, -1, 0, 0}, {0, 0, 0, 100, 0, 0},
            {0, 0, 0, 9, -1, 0}, {0, 0, 0, 9, 10, 0}, {0, 0, 0, 9, 0, -1}, {0, 0, 0, 9, 0, 10},
            {MIN, 0, 0, 9, 0, 0}, {0, MAX, 0, 9, 0, 0}, {0, 0, 0, MAX, 0, 0}, {0, 0, 0, 9, MIN, 0}};
        for (int[] b : bad) {
            Due.is("5: crosser(" + java.util.Arrays.toString(b) + ")",
                    x.crosser(b[0], b[1], b[2], b[3], b[4], b[5]), -1);
        }
        Due.is("5: look(3)", x.look(3), 0);
        Due.is("5: crosser", x.crosser(167, 1, 1, 99, 98, 9), 0);
        int[] due = {167, 1, 1, 99, 98, 9, 0, 0, -1, 0, 0, 0, -2};
        for (int what = 0; what < due.length; what++) {
            Due.is("5, 14: who(0, " + what + ")", x.who(0, what), due[what]);
        }
        Due.is("5: bears nothing", x.crosser(0, 0, 0, 0, 0, 0), 1);
        Due.is("5: all his own", x.crosser(0, 0, 0, 9, 9, 0), 2);
        x.hours(5);
        Due.is("5: an hour that went by", x.crosser(4, 0, 0, 9, 0, 0), -1);
        for (int i = 3; i < 20; i++) {
            Due.is("5: crosser " + i, x.crosser(5, 0, 0, 9, 0, 0), i);
        }
        Due.is("5: the 21st", x.crosser(5, 0, 0, 9, 0, 0), -1);
        Due.is("5: look(3)", x.look(3), 20);
    }

    private static void kind() {
        TakeOver x = new TakeOver();
        x.bridges(2);
        x.crosser(3, 0, 0, 9, 0, 0);
        x.crosser(3, 0, 0, 9, 0, 0);
        x.crosser(3, 0, 1, 9, 0, 0);
        x.crosser(3, 1, 0, 9, 0, 0);
        x.crosser(0, 0, 0, 9, 0, 0);
        int[][] bad = {{-1, 0, 0}, {5, 0, 0}, {MAX, 1, 1}, {0, -1, 0}, {0, 3, 0}, {0, 1, -1}, {0, 1, 25},
            {0, 2, 0}, {0, 2, -1}, {0, 2, 5}, {0, 2, 2}, {0, 2, 3}, {0, 2, MIN}};
        for (int[] b : bad) {
            Due.no("6: kind(" + b[0] + ", " + b[1] + ", " + b[2] + ")", x.kind(b[0], b[1], b[2]));
            Due.is("6: it stays", x.who(0, 6), 0);
        }
        Due.yes("6: kind(0, 1, 24)", x.kind(0, 1, 24));
        Due.is("6: who(0, 6)", x.who(0, 6), 1);
        Due.is("6: who(0, 7)", x.who(0, 7), 24);
        Due.yes("6: kind(0, 2, 1)", x.kind(0, 2, 1));
        Due.is("6: who(0, 6)", x.who(0, 6), 2);
        Due.is("6: who(0, 7)", x.who(0, 7), 1);
        Due.yes("6: a ring", x.kind(1, 2, 0));
        Due.yes("6: kind(0, 0, 77)", x.kind(0, 0, 77));
        Due.is("6: who(0, 7) plain", x.who(0, 7), 0);
        Due.yes("6: kind(0, 1, 0)", x.kind(0, 1, 0));
        x.hours(1);
        Due.is("6: he crossed", x.who(4, 8), 0);
        Due.no("6: he crossed already", x.kind(4, 0, 0));
        Due.no("6: he crossed already", x.kind(4, 1, 3));
        Due.no("6: he crossed already", x.kind(4, 2, 0));
        Due.yes("6: behind one who crossed", x.kind(0, 2, 4));
    }

    private static void set() {
        TakeOver x = new TakeOver();
        x.crosser(0, 0, 0, 1, 0, 0);
        Due.yes("7: toll 0", x.set(0, MIN, 0));
        Due.is("7: look(5)", x.look(5), 0);
        Due.yes("7: toll 999", x.set(0, 99, 999));
        Due.no("7: toll 1000", x.set(0, 0, 1000));
        Due.no("7: toll -2", x.set(0, 0, -2));
        Due.is("7: look(5)", x.look(5), 999);
        Due.yes("7: no toll", x.set(0, 0, -1));
        Due.is("7: look(5)", x.look(5), -1);
        Due.yes("7: strict", x.set(1, -7, 1));
        Due.no("7: strict 2", x.set(1, 0, 2));
        Due.no("7: strict -1", x.set(1, 0, -1));
        Due.is("7: look(6)", x.look(6), 1);
        Due.yes("7: not strict", x.set(1, 0, 0));
        Due.is("7: look(6)", x.look(6), 0);
        Due.yes("7: maybe", x.set(2, 0, 1));
        Due.is("7: who(0, 11)", x.who(0, 11), 1);
        Due.no("7: maybe 2", x.set(2, 0, 2));
        Due.no("7: maybe of none", x.set(2, 1, 1));
        Due.no("7: maybe of none", x.set(2, -1, 1));
        Due.yes("7: not maybe", x.set(2, 0, 0));
        Due.is("7: who(0, 11)", x.who(0, 11), 0);
        Due.no("7: set(3, 0, 0)", x.set(3, 0, 0));
        Due.no("7: set(-1, 0, 0)", x.set(-1, 0, 0));
        x.hours(1);
        Due.yes("7: maybe of one who crossed", x.set(2, 0, 1));
    }

    private static void feedAndEnd() {
        TakeOver x = new TakeOver();
        Due.no("9: end(1) of an empty tape", x.end(1));
        Due.yes("9: end(0) of an empty tape", x.end(0));
        for (int i = 1; i <= 20; i++) {
            Due.is("8: feed", x.feed(0x20202020, 0x20202020, 0x20202020, 0x20202020, 0x20202020), 20 * i);
        }
        Due.is("8: more than 400", x.feed(0x3b3b3b3b, 0, 0, 0, 0), -1);
        Due.no("9: end(401)", x.end(401));
        Due.no("9: end(-1)", x.end(-1));
        Due.no("9: end(MIN)", x.end(MIN));
        Due.yes("9: end(381)", x.end(381));
        Due.is("8: more than 400", x.feed(0, 0, 0, 0, 0), -1);
        Due.yes("9: end(380)", x.end(380));
        Due.is("8: feed", x.feed(0x20202020, 0x20202020, 0x20202020, 0x20202020, 0x20207e20), 400);
        Due.is("8: text()", x.text(), -1);
        Due.is("8: the byte's place", x.fault(1), 398);
        Due.is("10: the tape is empty", x.feed(0x74616b65, 0x3b6c6561, 0x76653b20, 0x20202020, 0x202020ff), 20);
        Due.yes("9: end(12)", x.end(12));
        Due.no("9: end(13)", x.end(13));
        Due.is("8: highest first", x.text(), 2);
        x.feed(-1, -1, -1, -1, -1);
        Due.is("8: bytes above 127", x.text(), -1);
        Due.is("8: at the first", x.fault(1), 0);
    }

    private static void offer() {
        TakeOver x = new TakeOver();
        int[][] bad = {{-1, 0, 0, 9, 0}, {168, 0, 0, 9, 0}, {0, -1, 0, 9, 0}, {0, 1, 0, 9, 0}, {0, 0, -1, 9, 0},
            {0, 0, 2, 9, 0}, {0, 0, 0, -1, 0}, {0, 0, 0, 100, 0}, {0, 0, 0, 9, -1}, {0, 0, 0, 9, 1000}};
        for (int[] b : bad) {
            Due.is("22: offer(" + java.util.Arrays.toString(b) + ")", x.offer(b[0], b[1], b[2], b[3], b[4]), -1);
        }
        x.hours(1);
        Due.is("22: an hour that went by", x.offer(0, 0, 0, 9, 9), -1);
        Due.is("22: offer", x.offer(1, 0, 1, 0, 999), 0);
        for (int i = 1; i < 8; i++) {
            Due.is("22: offer " + i, x.offer(167, 0, 0, 99, 0), i);
        }
        Due.is("22: the ninth", x.offer(167, 0, 0, 99, 0), -1);
        Due.is("22: look(8)", x.look(8), 8);
    }

    private static void list() {
        TakeOver x = new TakeOver();
        Due.no("25: no such load", x.list(0, 0, 1));
        Due.yes("25: none", x.list(0, 0, 0));
        x.load(1, 0, 0);
        x.load(1, 0, 0);
        Due.no("25: no such load", x.list(0, 0, 4));
        Due.no("25: no set", x.list(0, 0, -1));
        Due.no("25: no set", x.list(0, 0, MIN));
        Due.no("25: no end", x.list(0, 2, 3));
        Due.no("25: no end", x.list(0, -1, 3));
        Due.no("25: no hour", x.list(-1, 0, 3));
        Due.no("25: no hour", x.list(168, 0, 3));
        Due.yes("25: list", x.list(167, 1, 3));
        x.hours(9);
        Due.yes("25: an hour that went by", x.list(0, 0, 3));
        for (int i = 3; i < 20; i++) {
            Due.yes("25: list " + i, x.list(i, 0, 3));
        }
        Due.no("25: the 21st", x.list(0, 0, 3));
        Due.is("25: look(9)", x.look(9), 20);
        while (x.look(2) < 30) {
            x.load(1, 0, 9);
        }
        Due.no("25: bit 30 is no load", x.list(0, 0, 1 << 30));
        x.bridges(1);
        for (int i = 0; i < 30; i++) {
            x.load(1, 0, 0);
        }
        Due.yes("25: all thirty", x.list(0, 0, (1 << 30) - 1));
        Due.no("25: bit 30 is no load", x.list(0, 0, 1 << 30));
        Due.is("25: all thirty were there", x.night(0), 1);
    }

    private static void look() {
        TakeOver x = filled();
        int[] due = {2, 3, 2, 2, 1, 7, 1, 1, 1, 1, 7};
        for (int what = 0; what < due.length; what++) {
            Due.is("29: look(" + what + ")", x.look(what), due[what]);
        }
        Due.is("29: look(11)", x.look(11), -2);
        Due.is("29: look(-1)", x.look(-1), -2);
        Due.is("29: look(MIN)", x.look(MIN), -2);
        Due.is("29: look(MAX)", x.look(MAX), -2);
    }
}
