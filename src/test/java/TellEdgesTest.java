/** 'Terms' 1 and promises 1 to 5: every bound, one below and one above it; what is refused leaves all as it was. */
public final class TellEdgesTest {
    private static final int MIN = Integer.MIN_VALUE;
    private static final int MAX = Integer.MAX_VALUE;
    private static final int NONE = TakeOver.NONE;

    private static final Twin FRESH = Twin.fresh();
    private static final Twin MIDDLE = Twin.middle();
    private static final Twin FULL = Twin.full();
    private static final Twin LATE = Twin.late();
    private static final Twin[] ALL = {FRESH, MIDDLE, FULL, LATE};

    public static void main(String[] args) {
        comparisonsSee();
        aNewObject();
        bridges();
        bridgesToldAnew();
        bridgesToldAnewThenFilled();
        bridgesJoinEnds();
        load();
        thirtyLoads();
        loadBehindNow();
        fetch();
        fetchNoMore();
        fetchToldAnew();
        fetchHours();
        crosser();
        crosserOwn();
        twentyCrossers();
        Due.end();
    }

    /** A comparison of twins is worth something only if it sees each single telling. */
    private static void comparisonsSee() {
        Twin.Call[] tells = {x -> x.load(1, 0, 9), x -> x.fetch(0, 0, 9) ? 1 : 0, x -> x.fetch(3, NONE, 0) ? 1 : 0,
            x -> x.crosser(9, 0, 0, 1, 0, 0), x -> x.kind(2, 0, 0) ? 1 : 0, x -> x.kind(7, 1, 3) ? 1 : 0,
            x -> x.set(0, 0, NONE) ? 1 : 0, x -> x.set(1, 0, 0) ? 1 : 0, x -> x.set(2, 0, 1) ? 1 : 0,
            x -> x.feed(0, 0, 0, 0, 0), x -> x.end(19) ? 1 : 0, x -> x.end(0) ? 1 : 0, x -> x.text(),
            x -> 1 + x.hours(1), x -> x.offer(9, 0, 0, 1, 0), x -> x.list(9, 0, 0) ? 1 : 0, x -> x.image(true) ? 1 : 0,
            x -> x.image(false) ? 1 : 0, x -> x.bridges(2) ? 1 : 0};
        for (int i = 0; i < tells.length; i++) {
            Twin.Call tell = tells[i];
            MIDDLE.differs("telling " + i, () -> {
                TakeOver x = MIDDLE.make();
                Due.yes("it is taken", tell.on(x) > 0);
                return x;
            });
        }
    }

    private static void aNewObject() {
        Due.is("NONE", NONE, -1);
        TakeOver other = Twin.makeFull();
        FRESH.isLike("1: another object is nothing to it", TakeOver::new);
        Due.is("1: nor it to that one", other.look(2), 30);
        TakeOver x = new TakeOver();
        int[] due = {1, 0, 0, 0, 0, NONE, 0, 0, 0, 0, 0};
        for (int what = 0; what <= 10; what++) {
            Due.is("1: look(" + what + ")", x.look(what), due[what]);
        }
        Due.no("1: no image", x.image(false));
        Due.is("1: the tape is empty", x.feed(0, 0, 0, 0, 0), 20);
        Due.is("1: end 0", x.load(1, 0, 0), 0);
        Due.is("1: end 1", x.load(1, 1, 0), 1);
        Due.is("1: no end 2", x.load(1, 2, 0), NONE);
        Due.is("1: bridge 0", x.crosser(0, 0, 0, 2, 0, 9), 0);
        Due.is("1: no bridge 1", x.crosser(0, 1, 0, 2, 0, 0), NONE);
        Due.is("1: plain at first", x.who(0, 6), 0);
        Due.is("1: not maybe at first", x.who(0, 11), 0);
        Due.is("1: no toll and no law at first", x.hours(1), 1);
        FRESH.isLike("1: as one bridge told", () -> told(1));
    }

    private static TakeOver told(int bridges) {
        TakeOver x = new TakeOver();
        Due.yes("bridges(" + bridges + ")", x.bridges(bridges));
        return x;
    }

    private static void bridges() {
        for (Twin twin : ALL) {
            twin.bounds("2: bridges", 1, 3, 0, (x, n) -> x.bridges(n) ? 1 : 0, x -> x.look(0));
            twin.refuses("2: bridges", 0, (x, n) -> x.bridges(n) ? 1 : 0, -1, 5);
        }
    }

    private static void bridgesToldAnew() {
        for (int n = 1; n <= 3; n++) {
            int bridges = n;
            Twin bare = new Twin("bare but for what is kept", () -> {
                TakeOver x = new TakeOver();
                Twin.keptByBridges(x);
                x.bridges(bridges);
                Twin.faultAndTape(x);
                return x;
            });
            Twin.Recipe[] before = {Twin::makeMiddle, Twin::makeLate};
            for (Twin.Recipe recipe : before) {
                bare.isLike("2: told anew, " + n, () -> {
                    TakeOver x = recipe.make();
                    x.bridges(bridges);
                    return x;
                });
            }
        }
        TakeOver x = Twin.makeFull();
        x.bridges(3);
        Due.is("2: told anew, a full tape stays full", x.feed(0, 0, 0, 0, 0), NONE);
        Due.no("2: told anew, no image is none", x.image(false));
        for (int i = 0; i < 30; i++) {
            Due.is("2: told anew, loads", x.load(9, 0, 0), i);
            Due.is("2: told anew, not left", x.of(i, 1), NONE);
        }
        for (int i = 0; i < 20; i++) {
            Due.is("2: told anew, crossers", x.crosser(0, 0, 0, 9, 0, 0), i);
            Due.is("2: told anew, plain", x.who(i, 6), 0);
            Due.is("2: told anew, not maybe", x.who(i, 11), 0);
            Due.yes("2: told anew, lists", x.list(0, 0, 0));
        }
        for (int i = 0; i < 8; i++) {
            Due.is("2: told anew, offers", x.offer(0, 0, 0, 9, 0), i);
        }
    }

    /** What is told behind it is as in an object of its own: nothing of the rows of before is left in it. */
    private static void bridgesToldAnewThenFilled() {
        Twin filled = new Twin("filled", () -> {
            TakeOver x = new TakeOver();
            Twin.keptByBridges(x);
            Twin.faultAndTape(x);
            fill(x);
            return x;
        });
        Twin.Recipe[] before = {Twin::makeMiddle, Twin::makeLate};
        for (Twin.Recipe recipe : before) {
            filled.isLike("2: told anew, then filled", () -> {
                TakeOver x = recipe.make();
                x.bridges(2);
                fill(x);
                return x;
            });
        }
    }

    private static void fill(TakeOver x) {
        for (int i = 0; i < 30; i++) {
            x.load(1 + i, i % 3, i / 3);
        }
        for (int i = 0; i < 20; i++) {
            x.crosser(5 + i, i % 2, i / 2 % 2, 60, 0, 1);
        }
        for (int i = 0; i < 8; i++) {
            x.offer(20 + i, i % 2, 0, 50, i);
            x.list(i, 0, 0);
        }
    }

    private static void bridgesJoinEnds() {
        for (int n = 1; n <= 3; n++) {
            for (int bridge = 0; bridge < n; bridge++) {
                for (int way = 0; way <= 1; way++) {
                    TakeOver x = told(n);
                    for (int end = 0; end <= n; end++) {
                        x.load(1, end, 0);
                    }
                    x.crosser(0, bridge, way, 9, 0, 0);
                    Due.is("T1: one load is borne", x.hours(1), 1);
                    int from = way == 0 ? bridge : bridge + 1;
                    for (int end = 0; end <= n; end++) {
                        int due = end == from ? bridge + 1 - way : end;
                        Due.is("T1: bridge " + bridge + " way " + way + " load " + end, x.of(end, 1), due);
                    }
                    Due.is("T1: set down behind what waited", x.waits(bridge + 1 - way, 1), from);
                }
            }
            int last = n;
            Twin twin = new Twin(n + " bridges", () -> told(last));
            twin.bounds("T1: end", 0, n, NONE, (x, end) -> x.load(1, end, 0), null);
            twin.bounds("T1: bridge", 0, n - 1, NONE, (x, b) -> x.crosser(0, b, 0, 1, 0, 0), x -> x.who(0, 1));
            twin.bounds("T1: bridge", 0, n - 1, NONE, (x, b) -> x.offer(0, b, 0, 1, 0), null);
        }
    }

    private static void load() {
        FRESH.bounds("3: weight", 1, 99, NONE, (x, w) -> x.load(w, 0, 0), x -> x.of(0, 0));
        FRESH.bounds("3: hour", 0, 167, NONE, (x, h) -> x.load(1, 0, h), x -> x.of(0, 4));
        FRESH.bounds("3: end", 0, 1, NONE, (x, e) -> x.load(1, e, 0), TellEdgesTest::endOfNewest);
        MIDDLE.bounds("3: weight", 1, 99, NONE, (x, w) -> x.load(w, 0, 5), x -> x.of(6, 0));
        MIDDLE.bounds("3: end", 0, 2, NONE, (x, e) -> x.load(1, e, 5), TellEdgesTest::endOfNewest);
        MIDDLE.bounds("3: hour", 5, 167, NONE, (x, h) -> x.load(1, 0, h), x -> x.of(6, 4));
        MIDDLE.refuses("3: an hour that went by", NONE, (x, h) -> x.load(1, 0, h), 0, 3);
        LATE.refuses("3: no hour is left", NONE, (x, h) -> x.load(1, 0, h), 0, 166, 167, 168, 169);
        TakeOver x = new TakeOver();
        Due.is("3: refused", x.load(100, 0, 0), NONE);
        Due.is("3: a refused one takes no number", x.load(99, 0, 0), 0);
        Due.is("3: refused", x.load(0, 0, 0), NONE);
        Due.is("3: a refused one takes no number", x.load(1, 1, 167), 1);
    }

    /** Where the load told last is left: in thought the hour in which it comes is its own at one end alone. */
    private static long endOfNewest(TakeOver x) {
        int load = x.look(2) - 1;
        int hour = x.of(load, 4);
        for (int end = 0; end <= x.look(0); end++) {
            if (x.over(load, end) == hour) {
                return end;
            }
        }
        return NONE;
    }

    private static void thirtyLoads() {
        FULL.refuses("3: the 31st load", NONE, (x, w) -> x.load(w, 0, 9), 1, 99);
        TakeOver x = new TakeOver();
        for (int i = 0; i < 28; i++) {
            x.load(1, 0, 0);
        }
        Due.is("3: the 29th", x.load(1, 0, 0), 28);
        Due.is("3: the 30th", x.load(2, 0, 0), 29);
        Due.is("3: the 31st", x.load(3, 0, 0), NONE);
        Due.is("3: thirty", x.look(2), 30);
        Due.is("3: the 30th is as told", x.of(29, 0), 2);
        x.crosser(0, 0, 0, 99, 0, 0);
        Due.is("3: all thirty are there to be borne", x.hours(1), 30);
        Due.is("3: the 30th is the last of them", x.waits(1, 29), 29);
        Due.is("3: still thirty", x.load(3, 0, 1), NONE);
        for (int i = 0; i < 30; i++) {
            x.fetch(i, 1, 1);
        }
        x.hours(1);
        Due.is("3: those that are gone count, too", x.load(3, 0, 2), NONE);
    }

    private static void loadBehindNow() {
        TakeOver x = new TakeOver();
        for (int now = 1; now <= 167; now++) {
            x.hours(1);
            if (now % 6 == 5) {
                Due.is("3: one below now", x.load(1, 0, now - 1), NONE);
                Due.is("3: now", x.load(1, 0, now), now / 6);
                Due.is("3: its hour", x.of(now / 6, 4), now);
            }
        }
        Due.is("3: in the last hour", x.load(1, 0, 167), 28);
        x.hours(1);
        Due.is("3: it came in the last hour", x.of(28, 1), 0);
        Due.is("3: now is 168", x.look(1), 168);
        Due.is("3: no hour is left", x.load(1, 0, 168), NONE);
        Due.is("3: no hour is left", x.load(1, 0, 167), NONE);
    }

    private static void fetch() {
        FRESH.refuses("4: no load", 0, (x, l) -> x.fetch(l, 0, 0) ? 1 : 0, -1, 0, 1, MIN, MAX);
        MIDDLE.bounds("4: load", 0, 5, 0, (x, l) -> x.fetch(l, 0, 9) ? 1 : 0, null);
        MIDDLE.bounds("4: end", NONE, 2, 0, (x, e) -> x.fetch(3, e, 9) ? 1 : 0, null);
        MIDDLE.bounds("4: hour", 5, 167, 0, (x, h) -> x.fetch(3, 2, h) ? 1 : 0, null);
        MIDDLE.bounds("4: load, no more", 0, 5, 0, (x, l) -> x.fetch(l, NONE, 9) ? 1 : 0, null);
        FULL.bounds("4: load", 0, 29, 0, (x, l) -> x.fetch(l, 0, 9) ? 1 : 0, null);
        FULL.bounds("4: end", NONE, 3, 0, (x, e) -> x.fetch(29, e, 9) ? 1 : 0, null);
        LATE.refuses("4: no hour is left", 0, (x, h) -> x.fetch(3, 2, h) ? 1 : 0, 0, 166, 167, 168, 169);
    }

    private static void fetchNoMore() {
        TakeOver x = new TakeOver();
        x.load(1, 0, 0);
        Due.yes("4: no more, though it was not to be", x.fetch(0, NONE, 0));
        Due.yes("4: told", x.fetch(0, 0, 1));
        Due.yes("4: no more", x.fetch(0, NONE, 1));
        x.hours(3);
        Due.is("4: it is not gone", x.of(0, 5), 0);
        Due.yes("4: no more asks no hour", x.fetch(0, NONE, 0));
        Due.yes("4: no more asks no hour", x.fetch(0, NONE, MIN));
        Due.yes("4: no more asks no hour", x.fetch(0, NONE, 168));
        Due.yes("4: told", x.fetch(0, 0, 3));
        Due.no("4: END NONE - 1", x.fetch(0, NONE - 1, 3));
        x.hours(1);
        Due.is("4: that left it as it was: gone", x.of(0, 5), 1);
        Due.yes("4: no more", x.fetch(0, NONE, 4));
        Due.is("4: it stays gone", x.of(0, 5), 1);
        Due.is("4: it stays gone", x.waits(0, 0), NONE);
        x.hours(164);
        Due.yes("4: no more, behind all hours", x.fetch(0, NONE, 0));
        Due.no("4: no such load", x.fetch(1, NONE, 0));
    }

    private static void fetchToldAnew() {
        int[][] refused = {{0, 2, 4}, {0, -2, 4}, {0, 0, 168}, {0, 0, -1}, {1, 0, 4}, {-1, 0, 4}};
        for (int hour = 0; hour <= 8; hour++) {
            TakeOver x = new TakeOver();
            x.load(1, 0, 0);
            x.fetch(0, 0, 2);
            x.fetch(0, 1, 3);
            Due.yes("4: told anew", x.fetch(0, 0, 6));
            for (int[] r : refused) {
                Due.no("4: refused", x.fetch(r[0], r[1], r[2]));
            }
            Due.is("4: behind hour " + hour, x.gathers(0, hour, 0), hour < 6 ? 1 : 0);
        }
    }

    private static void fetchHours() {
        int[] left = {0, 5, 167};
        for (int hour : left) {
            for (int at = Math.max(0, hour - 1); at <= Math.min(167, hour + 1); at++) {
                TakeOver x = new TakeOver();
                x.load(1, 0, hour);
                Due.yes("4: fetch(0, 0, " + at + ")", x.fetch(0, 0, at));
                x.hours(168);
                Due.is("T2: left in " + hour + ", to be fetched in " + at, x.of(0, 5), at >= hour ? 1 : 0);
                Due.is("13: where it is, or went", x.of(0, 1), 0);
                Due.is("13: since when", x.of(0, 2), hour);
                Due.is("15: it waits", x.waits(0, 0), at >= hour ? NONE : 0);
            }
        }
        TakeOver x = new TakeOver();
        x.load(1, 0, 0);
        x.hours(5);
        Due.no("4: one below now", x.fetch(0, 0, 4));
        Due.yes("4: now", x.fetch(0, 0, 5));
        x.hours(1);
        Due.is("4: gone now", x.of(0, 5), 1);
        Due.is("4: since when it was there", x.of(0, 2), 0);
    }

    private static void crosser() {
        FRESH.bounds("5: hour", 0, 167, NONE, (x, v) -> x.crosser(v, 0, 0, 9, 0, 0), x -> x.who(0, 0));
        FRESH.bounds("5: bridge", 0, 0, NONE, (x, v) -> x.crosser(0, v, 0, 9, 0, 0), x -> x.who(0, 1));
        FRESH.bounds("5: way", 0, 1, NONE, (x, v) -> x.crosser(0, 0, v, 9, 0, 0), x -> x.who(0, 2));
        FRESH.bounds("5: bears", 0, 99, NONE, (x, v) -> x.crosser(0, 0, 0, v, 0, 0), x -> x.who(0, 3));
        FRESH.bounds("5: cost", 0, 9, NONE, (x, v) -> x.crosser(0, 0, 0, 9, 0, v), x -> x.who(0, 5));
        MIDDLE.bounds("5: hour", 5, 167, NONE, (x, v) -> x.crosser(v, 0, 0, 9, 0, 0), x -> x.who(8, 0));
        MIDDLE.bounds("5: bridge", 0, 1, NONE, (x, v) -> x.crosser(5, v, 0, 9, 0, 0), x -> x.who(8, 1));
        MIDDLE.bounds("5: way", 0, 1, NONE, (x, v) -> x.crosser(5, 0, v, 9, 0, 0), x -> x.who(8, 2));
        MIDDLE.bounds("5: bears", 0, 99, NONE, (x, v) -> x.crosser(5, 0, 0, v, 0, 0), x -> x.who(8, 3));
        MIDDLE.bounds("5: cost", 0, 9, NONE, (x, v) -> x.crosser(5, 0, 0, 9, 0, v), x -> x.who(8, 5));
        LATE.refuses("5: no hour is left", NONE, (x, v) -> x.crosser(v, 0, 0, 9, 0, 0), 0, 166, 167, 168, 169);
        TakeOver x = new TakeOver();
        Due.is("5: refused", x.crosser(0, 0, 0, 9, 10, 0), NONE);
        Due.is("5: a refused one takes no number", x.crosser(0, 0, 0, 9, 9, 0), 0);
    }

    private static void crosserOwn() {
        int[] bears = {0, 1, 50, 98, 99};
        for (int b : bears) {
            FRESH.bounds("5: own of " + b, 0, b, NONE, (x, v) -> x.crosser(0, 0, 0, b, v, 0), x -> x.who(0, 4));
            MIDDLE.bounds("5: own of " + b, 0, b, NONE, (x, v) -> x.crosser(9, 0, 0, b, v, 0), x -> x.who(8, 4));
        }
        FRESH.keeps("5: own with bears below 0", NONE, x -> x.crosser(0, 0, 0, -1, -1, 0));
        FRESH.keeps("5: own with bears above 99", NONE, x -> x.crosser(0, 0, 0, 100, 0, 0));
    }

    private static void twentyCrossers() {
        FULL.refuses("5: the 21st crosser", NONE, (x, v) -> x.crosser(9, 0, 0, v, 0, 0), 0, 1, 99);
        TakeOver x = new TakeOver();
        x.load(1, 0, 0);
        for (int i = 0; i < 18; i++) {
            x.crosser(0, 0, 0, 0, 0, 0);
        }
        Due.is("5: the 19th", x.crosser(1, 0, 0, 1, 0, 0), 18);
        Due.is("5: the 20th", x.crosser(2, 0, 1, 1, 0, 0), 19);
        Due.is("5: the 21st", x.crosser(3, 0, 0, 1, 0, 0), NONE);
        Due.is("5: twenty", x.look(3), 20);
        Due.is("5: both bear it", x.hours(168), 2);
        Due.is("5: the 20th is as told", x.who(19, 8), 2);
        x.bridges(1);
        for (int i = 0; i < 20; i++) {
            x.crosser(0, 0, 0, 0, 0, 0);
        }
        x.hours(1);
        Due.is("5: those who crossed count, too", x.crosser(1, 0, 0, 0, 0, 0), NONE);
    }
}
