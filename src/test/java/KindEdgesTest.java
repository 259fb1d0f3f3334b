/** Promises 6, 7, 22, 25: every bound of kinds, of what is set, of offers and lists; what is refused leaves all. */
public final class KindEdgesTest {
    private static final int MIN = Integer.MIN_VALUE;
    private static final int MAX = Integer.MAX_VALUE;
    private static final int NONE = TakeOver.NONE;

    private static final Twin FRESH = Twin.fresh();
    private static final Twin MIDDLE = Twin.middle();
    private static final Twin FULL = Twin.full();
    private static final Twin LATE = Twin.late();
    private static final Twin[] ALL = {FRESH, MIDDLE, FULL, LATE};

    public static void main(String[] args) {
        kindOfNobody();
        kinds();
        kindWaits();
        kindBehind();
        kindOfOneWhoCrossed();
        kindAtTheLastHours();
        setToll();
        setStrict();
        setMaybe();
        setAnotherWhat();
        offer();
        offerIsAsTold();
        eightOffers();
        list();
        listSets();
        twentyLists();
        Due.end();
    }

    private static void kindOfNobody() {
        for (int k = 0; k <= 2; k++) {
            int kind = k;
            FRESH.refuses("6: no crosser", 0, (x, c) -> x.kind(c, kind, 0) ? 1 : 0, -1, 0, 1, MIN, MAX);
            MIDDLE.refuses("6: no crosser", 0, (x, c) -> x.kind(c, kind, 0) ? 1 : 0, -1, 8, 9, MIN, MAX);
            FULL.refuses("6: no crosser", 0, (x, c) -> x.kind(c, kind, 0) ? 1 : 0, -1, 20, 21, MIN, MAX);
        }
        TakeOver x = Twin.makeFull();
        Due.yes("6: the 20th crosser", x.kind(19, 1, 3));
        Due.is("6: the 20th crosser", x.who(19, 6), 1);
    }

    private static void kinds() {
        int[][] pairs = {{2, 3}, {3, 2}, {4, 7}, {7, 4}};
        for (int[] pair : pairs) {
            // the other one's number is a number of hours as well
            MIDDLE.bounds("6: kind of " + pair[0], 0, 2, 0, (x, k) -> x.kind(pair[0], k, pair[1]) ? 1 : 0,
                    x -> x.who(pair[0], 6));
        }
        for (int v : new int[] {MIN, NONE, 0, 2, 24, 25, MAX}) {
            TakeOver x = Twin.makeMiddle();
            Due.yes("6: plain asks no v, " + v, x.kind(2, 0, v));
            Due.is("14: plain", x.who(2, 6), 0);
            Due.is("14: v is 0 for plain", x.who(2, 7), 0);
            Due.is("6: he crosses in his hour then", x.hours(6) >= 0 ? x.who(2, 8) : NONE, 10);
        }
    }

    private static void kindWaits() {
        for (int crosser : new int[] {2, 3, 4, 5, 7}) {
            MIDDLE.bounds("6: hours that " + crosser + " waits", 0, 24, 0, (x, v) -> x.kind(crosser, 1, v) ? 1 : 0,
                    x -> x.who(crosser, 7));
        }
        TakeOver x = Twin.makeMiddle();
        Due.no("6: 25 hours", x.kind(2, 1, 25));
        Due.is("6: refused, he waits as he did", x.who(2, 6), 1);
        Due.is("6: refused, he waits as he did", x.who(2, 7), 4);
        Due.no("6: 25 hours", x.kind(3, 1, 25));
        Due.is("6: refused, he goes behind as he did", x.who(3, 6), 2);
        Due.is("6: refused, he goes behind as he did", x.who(3, 7), 2);
    }

    private static void kindBehind() {
        // of the same bridge and way as crosser 2: 0, 3, 6; himself, another way, another bridge, both, nobody
        MIDDLE.refuses("6: 2 can't go behind", 0, (x, v) -> x.kind(2, 2, v) ? 1 : 0, 2, 1, 4, 5, 7, -1, 8, MIN, MAX);
        MIDDLE.refuses("6: 4 can't go behind", 0, (x, v) -> x.kind(4, 2, v) ? 1 : 0, 4, 0, 1, 2, 3, 5, 6, -1, 8);
        MIDDLE.refuses("6: 5 can't go behind", 0, (x, v) -> x.kind(5, 2, v) ? 1 : 0, 0, 1, 2, 3, 4, 5, 6, 7, 8, -1);
        for (int v : new int[] {0, 3, 6}) {
            TakeOver x = Twin.makeMiddle();
            Due.yes("6: behind " + v, x.kind(2, 2, v));
            Due.is("14: behind", x.who(2, 6), 2);
            Due.is("14: behind " + v, x.who(2, 7), v);
        }
        Twin twenty = new Twin("twenty alike", () -> {
            TakeOver x = new TakeOver();
            for (int i = 0; i < 20; i++) {
                x.crosser(9, 0, 0, i, 0, 0);
            }
            return x;
        });
        twenty.bounds("6: behind, from the midst", 0, 19, 0, (x, v) -> x.kind(7, 2, v) ? 1 : 0, x -> x.who(7, 7));
        twenty.keeps("6: the first behind himself", 0, x -> x.kind(0, 2, 0) ? 1 : 0);
        twenty.keeps("6: the last behind himself", 0, x -> x.kind(19, 2, 19) ? 1 : 0);
        TakeOver x = twenty.make();
        Due.yes("6: the first behind the last", x.kind(0, 2, 19));
        Due.yes("6: the last behind the first: a ring", x.kind(19, 2, 0));
        x.hours(168);
        Due.is("6: of a ring nobody crosses", x.who(0, 8), NONE);
        Due.is("6: of a ring nobody crosses", x.who(19, 8), NONE);
        Due.is("6: the others do", x.who(18, 8), 9);
    }

    private static void kindOfOneWhoCrossed() {
        for (int c : new int[] {0, 1, 6}) {
            MIDDLE.refuses("6: kind of " + c + ", he crossed already", 0, (x, k) -> x.kind(c, k, 2) ? 1 : 0, 0, 1, 2);
        }
        LATE.refuses("6: all crossed already", 0, (x, c) -> x.kind(c, 0, 0) ? 1 : 0, 0, 1, 2, 3, 4, 5, 6, 7);
        TakeOver x = new TakeOver();
        x.crosser(3, 0, 0, 1, 0, 0);
        x.crosser(9, 0, 0, 1, 0, 0);
        x.hours(3);
        Due.yes("6: the hour before he crosses", x.kind(0, 1, 0));
        x.image(true);
        x.hours(1);
        Due.no("6: the hour behind his crossing", x.kind(0, 0, 0));
        Due.no("6: the hour behind his crossing", x.kind(0, 1, 0));
        Due.yes("6: another one behind one who crossed", x.kind(1, 2, 0));
        x.hours(164);
        Due.is("6: he goes behind a crossing that was: never", x.who(1, 8), NONE);
        x.image(false);
        Due.yes("6: gone back he did not cross yet", x.kind(0, 0, 0));
    }

    private static void kindAtTheLastHours() {
        TakeOver x = new TakeOver();
        x.load(1, 0, 0);
        x.crosser(167, 0, 0, 0, 0, 0);
        x.crosser(167, 0, 0, 0, 0, 0);
        x.kind(0, 1, 1);
        x.kind(1, 1, 0);
        x.hours(168);
        Due.is("T2: 167 and 1 is beyond", x.who(0, 8), NONE);
        Due.is("T2: 167 and 0 is not", x.who(1, 8), 167);
        Due.yes("6: of one who never crossed, behind all hours", x.kind(0, 2, 1));
        Due.yes("6: of one who never crossed, behind all hours", x.kind(0, 1, 24));
        Due.no("6: not 25", x.kind(0, 1, 25));
        Due.is("14: v", x.who(0, 7), 24);
    }

    private static void setToll() {
        for (Twin twin : ALL) {
            twin.bounds("7: toll", NONE, 999, 0, (x, v) -> x.set(0, 0, v) ? 1 : 0, x -> x.look(5));
            twin.bounds("7: toll asks no i", NONE, 999, 0, (x, v) -> x.set(0, MIN, v) ? 1 : 0, x -> x.look(5));
        }
        for (int i : new int[] {MIN, -1, 0, 20, MAX}) {
            TakeOver x = new TakeOver();
            Due.yes("7: toll asks no i", x.set(0, i, 7));
            Due.is("29: toll", x.look(5), 7);
            Due.no("7: 1000", x.set(0, i, 1000));
            Due.no("7: NONE - 1", x.set(0, i, NONE - 1));
            Due.is("29: the toll stays", x.look(5), 7);
        }
    }

    private static void setStrict() {
        for (Twin twin : ALL) {
            twin.bounds("7: strict", 0, 1, 0, (x, v) -> x.set(1, 0, v) ? 1 : 0, x -> x.look(6));
        }
        for (int i : new int[] {MIN, -1, 0, 20, MAX}) {
            TakeOver x = new TakeOver();
            Due.yes("7: strict asks no i", x.set(1, i, 1));
            Due.no("7: 2", x.set(1, i, 2));
            Due.no("7: NONE", x.set(1, i, NONE));
            Due.is("29: it stays strict", x.look(6), 1);
        }
    }

    private static void setMaybe() {
        FRESH.refuses("7: maybe of nobody", 0, (x, i) -> x.set(2, i, 1) ? 1 : 0, -1, 0, 1, MIN, MAX);
        for (int v = 0; v <= 1; v++) {
            int value = v;
            MIDDLE.bounds("7: maybe of", 0, 7, 0, (x, i) -> x.set(2, i, value) ? 1 : 0, null);
            FULL.bounds("7: maybe of", 0, 19, 0, (x, i) -> x.set(2, i, value) ? 1 : 0, null);
            LATE.bounds("7: maybe of", 0, 7, 0, (x, i) -> x.set(2, i, value) ? 1 : 0, null);
        }
        for (int c = 0; c <= 7; c++) {
            int crosser = c;
            MIDDLE.bounds("7: maybe", 0, 1, 0, (x, v) -> x.set(2, crosser, v) ? 1 : 0, x -> x.who(crosser, 11));
        }
        TakeOver x = Twin.makeMiddle();
        x.set(2, 7, 1);
        for (int c = 0; c <= 7; c++) {
            Due.is("7: of that one alone", x.who(c, 11), c == 4 || c == 5 || c == 7 ? 1 : 0);
        }
    }

    private static void setAnotherWhat() {
        for (Twin twin : ALL) {
            for (int v = -1; v <= 1; v++) {
                int value = v;
                twin.refuses("7: what", 0, (x, what) -> x.set(what, 0, value) ? 1 : 0, -1, 3, MIN, MAX);
            }
        }
    }

    private static void offer() {
        FRESH.bounds("22: hour", 0, 167, NONE, (x, v) -> x.offer(v, 0, 0, 9, 0), null);
        FRESH.bounds("22: bridge", 0, 0, NONE, (x, v) -> x.offer(0, v, 0, 9, 0), null);
        FRESH.bounds("22: way", 0, 1, NONE, (x, v) -> x.offer(0, 0, v, 9, 0), null);
        FRESH.bounds("22: bears", 0, 99, NONE, (x, v) -> x.offer(0, 0, 0, v, 0), null);
        FRESH.bounds("22: price", 0, 999, NONE, (x, v) -> x.offer(0, 0, 0, 9, v), null);
        MIDDLE.bounds("22: hour", 5, 167, NONE, (x, v) -> x.offer(v, 0, 0, 9, 0), null);
        MIDDLE.bounds("22: bridge", 0, 1, NONE, (x, v) -> x.offer(5, v, 0, 9, 0), null);
        MIDDLE.bounds("22: way", 0, 1, NONE, (x, v) -> x.offer(5, 0, v, 9, 0), null);
        MIDDLE.bounds("22: bears", 0, 99, NONE, (x, v) -> x.offer(5, 0, 0, v, 0), null);
        MIDDLE.bounds("22: price", 0, 999, NONE, (x, v) -> x.offer(5, 0, 0, 9, v), null);
        LATE.refuses("22: no hour is left", NONE, (x, v) -> x.offer(v, 0, 0, 9, 0), 0, 166, 167, 168, 169);
    }

    /** The offer that was told is the one who is hired: his hour, bridge, way, what he bears, his price. */
    private static void offerIsAsTold() {
        for (int price : new int[] {0, 1, 998, 999}) {
            Twin twin = new Twin("an offer", () -> hired(price));
            TakeOver x = twin.make();
            Due.is("22: not the hour before", x.fewest(1, 1, 8, 0), NONE);
            Due.is("22: in his hour", x.fewest(1, 1, 9, 0), 1);
            Due.is("22: his price", x.fewest(1, 1, 9, 1), price);
            Due.is("22: too heavy for him", x.fewest(2, 1, 9, 0), NONE);
            Due.is("22: not his bridge", x.fewest(1, 0, 9, 0), NONE);
            x.hours(9);
            Due.is("23: his hour is now", x.fewest(1, 1, 9, 0), 1);
            x.hours(1);
            Due.is("23: his hour went by, he was not hired", x.fewest(1, 1, 10, 0), NONE);
            Due.is("29: the offer stays told", x.look(8), 1);
            Due.is("12: an offer alone bears nothing", x.hours(158), 0);
        }
    }

    private static TakeOver hired(int price) {
        TakeOver x = new TakeOver();
        x.bridges(2);
        x.load(50, 2, 0);
        x.load(51, 2, 0);
        Due.is("22: the first", x.offer(9, 1, 1, 50, price), 0);
        return x;
    }

    private static void eightOffers() {
        FULL.refuses("22: the ninth offer", NONE, (x, v) -> x.offer(9, 0, 0, 9, v), 0, 999);
        TakeOver x = new TakeOver();
        for (int i = 0; i < 6; i++) {
            x.offer(0, 0, 0, 1, 0);
        }
        Due.is("22: the seventh", x.offer(0, 0, 0, 1, 0), 6);
        Due.is("22: the eighth", x.offer(0, 0, 0, 9, 1), 7);
        Due.is("22: the ninth", x.offer(0, 0, 0, 9, 0), NONE);
        Due.is("29: eight", x.look(8), 8);
        x.load(9, 0, 0);
        Due.is("23: the eighth is hired", x.fewest(1, 1, 0, 0), 128);
        x.hours(1);
        Due.is("22: those whose hour went by count, too", x.offer(1, 0, 0, 1, 0), NONE);
    }

    private static void list() {
        FRESH.bounds("25: hour", 0, 167, 0, (x, v) -> x.list(v, 0, 0) ? 1 : 0, null);
        FRESH.bounds("25: end", 0, 1, 0, (x, v) -> x.list(0, v, 0) ? 1 : 0, null);
        MIDDLE.bounds("25: hour", 0, 167, 0, (x, v) -> x.list(v, 0, 1) ? 1 : 0, null);
        MIDDLE.bounds("25: end", 0, 2, 0, (x, v) -> x.list(0, v, 1) ? 1 : 0, null);
        LATE.bounds("25: hour", 0, 167, 0, (x, v) -> x.list(v, 0, 1) ? 1 : 0, null);
        // load 0 comes to end 1 in hour 3: behind hour 2 it is not there, behind 3 it is
        for (int hour = 2; hour <= 4; hour++) {
            TakeOver x = new TakeOver();
            x.load(1, 1, 3);
            Due.yes("25: list", x.list(hour, 1, 1));
            Due.is("26: behind hour " + hour, x.night(0), hour >= 3 ? 1 : 0);
            x.bridges(1);
            x.load(1, 1, 3);
            Due.yes("25: list", x.list(hour, 1, 0));
            Due.is("26: just these: none, behind hour " + hour, x.night(0), hour >= 3 ? 0 : 1);
            x.bridges(1);
            x.load(1, 1, 3);
            Due.yes("25: list", x.list(hour, 0, 0));
            Due.is("26: of the other end", x.night(0), 1);
        }
    }

    private static void listSets() {
        FRESH.refuses("25: no set of no loads", 0, (x, v) -> x.list(0, 0, v) ? 1 : 0, 1, 2, -1, 1 << 30, MIN, MAX);
        for (int n = 1; n <= 30; n++) {
            int loads = n;
            Twin twin = new Twin(n + " loads", () -> {
                TakeOver x = new TakeOver();
                for (int i = 0; i < loads; i++) {
                    x.load(1, 0, 0);
                }
                return x;
            });
            int all = (1 << n) - 1;
            twin.bounds("25: set", 0, all, 0, (x, v) -> x.list(0, 0, v) ? 1 : 0, null);
            TakeOver x = twin.make();
            Due.yes("25: all of them", x.list(0, 0, all));
            Due.is("26: just these were there", x.night(0), 1);
            Due.yes("25: one less", x.list(0, 0, all - 1));
            Due.is("26: just these were not there", x.night(0), 0);
        }
        MIDDLE.refuses("25: no set of six loads", 0, (x, v) -> x.list(0, 0, v) ? 1 : 0, 64, 65, -1, -2, MIN, MAX);
    }

    private static void twentyLists() {
        FULL.refuses("25: the 21st list", 0, (x, v) -> x.list(0, 0, v) ? 1 : 0, 0, 1);
        TakeOver x = new TakeOver();
        x.load(1, 0, 0);
        for (int i = 0; i < 18; i++) {
            x.list(0, 0, 1);
        }
        Due.yes("25: the 19th", x.list(0, 0, 1));
        Due.is("26: all agree", x.night(0), 1);
        Due.is("29: nineteen", x.look(9), 19);
        x.image(true);
        Due.yes("25: the 20th", x.list(167, 0, 1));
        Due.no("25: the 21st", x.list(0, 0, 0));
        Due.is("29: twenty", x.look(9), 20);
        Due.is("26: the 21st is not asked", x.night(0), 1);
        x.image(false);
        Due.yes("25: the 20th", x.list(167, 0, 0));
        Due.is("26: the 20th is asked", x.night(0), 0);
    }
}
