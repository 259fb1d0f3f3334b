import java.math.BigInteger;

/** 'Terms' 3, choices among many and the image, and promises 23, 24, 26 to 28, each at its bounds. */
public final class ChoiceEdgesTest {
    private static final int MIN = Integer.MIN_VALUE;
    private static final int MAX = Integer.MAX_VALUE;
    private static final int NONE = TakeOver.NONE;

    private static final Twin FRESH = Twin.fresh();
    private static final Twin MIDDLE = Twin.middle();
    private static final Twin FULL = Twin.full();
    private static final Twin LATE = Twin.late();
    private static final Twin[] ALL = {FRESH, MIDDLE, FULL, LATE};

    public static void main(String[] args) {
        fewestBounds();
        fewestHours();
        fewestOfNobody();
        fewestByCountPriceNumber();
        fewestOfAllEight();
        fewestBehindCrossers();
        fewestPaysNothing();
        rightBounds();
        rightTolls();
        rightFromNowOn();
        rightOfMany();
        nightBounds();
        nightWithoutLists();
        nightSets();
        nightBehind();
        nightFromHourNought();
        chanceBounds();
        chanceOfAll();
        imageOfNothing();
        imageIsAllButTapeAndFault();
        imageMoreThanOnce();
        imageAtTheBounds();
        Due.end();
    }

    private static void fewestBounds() {
        int[] loads = {0, 6, 30, 6};
        for (int i = 0; i < ALL.length; i++) {
            Twin twin = ALL[i];
            int now = twin.make().look(1);
            int bridges = twin.make().look(0);
            int all = loads[i] == 0 ? 0 : (1 << loads[i]) - 1;
            for (int w = 0; w <= 1; w++) {
                int what = w;
                twin.refuses("23: set", NONE, (x, v) -> x.fewest(v, 0, 167, what), -1, 0, all + 1, all + 2, MIN, MAX);
                twin.refuses("23: end", NONE, (x, v) -> x.fewest(1, v, 167, what), -1, bridges + 1, MIN, MAX);
                twin.refuses("23: hour", NONE, (x, v) -> x.fewest(1, 0, v, what), -1, now - 1, 168, MIN, MAX);
            }
            twin.refuses("23: what", NONE, (x, v) -> x.fewest(1, 0, 167, v), -1, 2, 3, MIN, MAX);
        }
        Twin there = new Twin("thirty that are there", () -> {
            TakeOver x = new TakeOver();
            x.bridges(3);
            for (int i = 0; i < 30; i++) {
                x.load(1, 3, 0);
            }
            x.hours(5);
            return x;
        });
        there.bounds("23: set", 1, (1 << 30) - 1, NONE, (x, v) -> x.fewest(v, 3, 5, 0), null);
        there.bounds("23: end", 3, 3, NONE, (x, v) -> x.fewest(1, v, 5, 0), null);
        there.bounds("23: hour", 5, 167, NONE, (x, v) -> x.fewest(1, 3, v, 0), null);
        there.bounds("23: what", 0, 1, NONE, (x, v) -> x.fewest(1, 3, 5, v), null);
        TakeOver x = there.make();
        for (int load = 0; load < 30; load++) {
            Due.is("23: it is there, nobody is hired", x.fewest(1 << load, 3, 5, 0), 0);
            Due.is("23: for nothing", x.fewest(1 << load, 3, 5, 1), 0);
            Due.is("23: it is not there", x.fewest(1 << load, 2, 5, 0), NONE);
        }
    }

    /** Behind an hour: one who is hired in it is in time, one in the next is not. */
    private static void fewestHours() {
        for (int hour : new int[] {0, 1, 100, 166, 167}) {
            TakeOver x = new TakeOver();
            x.load(1, 0, 0);
            x.load(1, 0, hour);
            x.offer(hour, 0, 0, 2, 7);
            if (hour > 0) {
                Due.is("23: behind " + (hour - 1), x.fewest(1, 1, hour - 1, 0), NONE);
                Due.is("23: behind " + (hour - 1), x.fewest(1, 1, hour - 1, 1), NONE);
            }
            Due.is("23: behind " + hour, x.fewest(3, 1, hour, 0), 1);
            Due.is("23: behind " + hour, x.fewest(3, 1, hour, 1), 7);
            x.fetch(0, 0, hour);
            x.fetch(1, 0, hour);
            Due.is("23: gone behind " + hour, x.fewest(3, 1, hour, 0), 0);
            Due.is("23: gone behind " + hour, x.fewest(3, 1, hour, 1), 0);
            if (hour > 0) {
                Due.is("23: not gone before", x.fewest(1, 1, hour - 1, 0), NONE);
            }
        }
        TakeOver x = new TakeOver();
        x.load(1, 0, 9);
        Due.is("23: not left yet behind 8", x.fewest(1, 0, 8, 0), NONE);
        Due.is("23: left behind 9", x.fewest(1, 0, 9, 0), 0);
        x.crosser(10, 0, 0, 1, 0, 0);
        Due.is("23: borne away behind 10", x.fewest(1, 0, 10, 0), NONE);
        Due.is("23: and there behind 10", x.fewest(1, 1, 10, 0), 0);
    }

    private static void fewestOfNobody() {
        TakeOver x = new TakeOver();
        x.load(1, 0, 0);
        Due.is("23: no offers, it is there", x.fewest(1, 0, 0, 0), 0);
        Due.is("23: no offers, it is not there", x.fewest(1, 1, 167, 0), NONE);
        Due.is("23: no offers, it is not there", x.fewest(1, 1, 167, 1), NONE);
        x.offer(5, 0, 0, 0, 0);
        Due.is("23: one who bears nothing", x.fewest(1, 1, 167, 0), NONE);
        x.offer(5, 0, 1, 9, 0);
        Due.is("23: one of the other way", x.fewest(1, 1, 167, 0), NONE);
        x.offer(5, 0, 0, 1, 999);
        Due.is("23: one at any price", x.fewest(1, 1, 167, 0), 4);
        Due.is("23: his price", x.fewest(1, 1, 167, 1), 999);
        x.hours(6);
        Due.is("23: his hour went by", x.fewest(1, 1, 167, 0), NONE);
        Due.is("23: behind his hour none are hired", x.fewest(1, 0, 167, 0), 0);
    }

    /** Four loads; some bear two of them at a price, some bear one for nothing. */
    private static void fewestByCountPriceNumber() {
        int[][] offers = {{1, 0}, {1, 0}, {2, 5}, {2, 6}, {2, 5}, {2, 5}, {1, 0}, {1, 0}};
        TakeOver x = new TakeOver();
        for (int[] o : offers) {
            x.offer(3, 0, 0, o[0], o[1]);
        }
        for (int i = 0; i < 4; i++) {
            x.load(1, 0, 0);
        }
        Due.is("23: fewest ahead of cheapest", x.fewest(15, 1, 3, 1), 10);
        Due.is("23: cheapest, then least as a number", x.fewest(15, 1, 3, 0), 4 + 16);
        Due.is("23: one alone, the cheapest", x.fewest(1, 1, 3, 0), 1);
        Due.is("23: for nothing", x.fewest(1, 1, 3, 1), 0);
        Due.is("23: one for two", x.fewest(3, 1, 3, 0), 4);
        Due.is("23: one for two", x.fewest(3, 1, 3, 1), 5);
        Due.is("23: two for three", x.fewest(7, 1, 3, 0), 1 + 4);
        Due.is("23: two for three", x.fewest(7, 1, 3, 1), 5);
        x.bridges(1);
        x.load(1, 0, 0);
        x.offer(3, 0, 0, 1, 6);
        x.offer(3, 0, 0, 1, 5);
        x.offer(3, 0, 0, 1, 5);
        x.offer(3, 0, 0, 1, 4);
        Due.is("23: one cheaper by 1", x.fewest(1, 1, 3, 0), 8);
        x.bridges(1);
        x.load(1, 0, 0);
        x.offer(3, 0, 0, 1, 5);
        x.offer(3, 0, 0, 1, 5);
        Due.is("23: alike, the least as a number", x.fewest(1, 1, 3, 0), 1);
    }

    private static void fewestOfAllEight() {
        TakeOver x = new TakeOver();
        for (int i = 0; i < 9; i++) {
            x.load(1, 0, 0);
        }
        for (int i = 0; i < 8; i++) {
            x.offer(i, 0, 0, 1, 999);
        }
        for (int n = 1; n <= 9; n++) {
            Due.is("23: " + n + " loads", x.fewest((1 << n) - 1, 1, 167, 0), n == 9 ? NONE : (1 << n) - 1);
            Due.is("23: their price", x.fewest((1 << n) - 1, 1, 167, 1), n == 9 ? NONE : n * 999);
        }
        Due.is("23: the last one alone asks for all before it", x.fewest(128, 1, 167, 0), 255);
        Due.is("23: behind hour 6 one is missed", x.fewest(255, 1, 6, 0), NONE);
        Due.is("23: behind hour 7", x.fewest(255, 1, 7, 0), 255);
    }

    /** Hired ones of an hour cross behind all of it, behind ones too, by number. */
    private static void fewestBehindCrossers() {
        TakeOver x = new TakeOver();
        x.load(1, 0, 0);
        x.load(1, 0, 0);
        x.load(1, 0, 0);
        x.crosser(2, 0, 0, 1, 0, 0);
        x.crosser(9, 0, 0, 1, 0, 0);
        x.kind(1, 2, 0);
        x.offer(2, 0, 0, 1, 0);
        Due.is("23: the third load is left for the hired one", x.fewest(4, 1, 2, 0), 1);
        Due.is("23: nobody for the first two", x.fewest(3, 1, 2, 0), 0);
        x.bridges(2);
        x.load(1, 0, 0);
        x.offer(2, 0, 0, 1, 0);
        x.offer(2, 1, 0, 1, 0);
        x.offer(2, 1, 1, 1, 0);
        x.offer(2, 0, 1, 1, 0);
        Due.is("23: by number, to end 2", x.fewest(1, 2, 2, 0), 1 + 2);
        Due.is("23: to end 1", x.fewest(1, 1, 2, 0), 1);
        Due.is("23: to end 0 nobody", x.fewest(1, 0, 2, 0), 0);
        x.bridges(2);
        x.load(1, 0, 0);
        x.offer(2, 1, 0, 1, 0);
        x.offer(2, 0, 0, 1, 0);
        Due.is("23: by number he who could go on went before", x.fewest(1, 2, 167, 0), NONE);
        Due.is("T3: nobody is hired for good", x.hours(168), 0);
    }

    private static void fewestPaysNothing() {
        TakeOver x = new TakeOver();
        x.load(99, 0, 0);
        x.set(0, 0, 0);
        x.offer(2, 0, 0, 99, 3);
        Due.is("23: cost 0", x.fewest(1, 1, 2, 0), 1);
        Due.law(x, "leave when own>0;");
        Due.is("23: own 0", x.fewest(1, 1, 2, 0), 1);
        Due.law(x, "leave when own=0;");
        Due.is("23: by the law", x.fewest(1, 1, 2, 0), NONE);
    }

    private static void rightBounds() {
        for (Twin twin : ALL) {
            twin.refuses("24: k", NONE, (x, k) -> x.right(k), -1, 0, 21, 22, MIN, MAX);
        }
        FRESH.refuses("24: nobody", NONE, (x, k) -> x.right(k), 1, 20);
        LATE.refuses("24: behind all hours", NONE, (x, k) -> x.right(k), 1, 20);
    }

    /** The least toll that is not below what it costs: 300 at most; 299 is no cost times a weight. */
    private static void rightTolls() {
        int[][] due = {{99, 0, 0}, {1, 1, 1}, {2, 1, 2}, {1, 9, 9}, {99, 3, 297}, {37, 8, 296}, {60, 5, 300}, {50, 6, 300},
            {75, 4, 300}, {43, 7, NONE}, {99, 4, NONE}, {34, 9, NONE}, {33, 9, 297}, {99, 9, NONE}, {76, 4, NONE}};
        for (int[] d : due) {
            TakeOver x = new TakeOver();
            x.load(d[0], 0, 0);
            x.crosser(0, 0, 0, 99, 0, d[1]);
            Due.is("24: " + d[0] + " at a cost of " + d[1], x.right(1), d[2]);
            Due.is("24: never two", x.right(2), NONE);
        }
        TakeOver x = new TakeOver();
        x.load(42, 0, 0);
        x.crosser(0, 0, 0, 99, 0, 7);
        Due.is("24: 294", x.right(1), 294);
        for (int toll : new int[] {NONE, 0, 293, 294, 999}) {
            x.set(0, 0, toll);
            Due.is("24: whatever the toll is, " + toll, x.right(1), 294);
            Due.is("29: it stays", x.look(5), toll);
        }
    }

    private static void rightFromNowOn() {
        TakeOver x = new TakeOver();
        x.load(5, 0, 0);
        x.crosser(3, 0, 0, 9, 0, 1);
        x.crosser(6, 0, 1, 9, 0, 2);
        Due.is("24: both", x.right(2), 10);
        Due.is("24: one", x.right(1), 5);
        x.hours(3);
        Due.is("24: the first crosses now", x.right(2), 10);
        x.hours(1);
        Due.is("24: he crossed already", x.right(2), NONE);
        Due.is("24: the other is to come", x.right(1), 10);
        x.hours(2);
        Due.is("24: the other crosses now", x.right(1), 10);
        x.hours(1);
        Due.is("24: nobody is to come", x.right(1), NONE);
        TakeOver y = new TakeOver();
        y.load(5, 0, 0);
        y.crosser(167, 0, 0, 9, 0, 1);
        Due.is("24: in the last hour", y.right(1), 5);
        y.offer(3, 0, 0, 9, 0);
        Due.is("24: nobody is hired", y.right(2), NONE);
    }

    private static void rightOfMany() {
        TakeOver x = new TakeOver();
        for (int i = 0; i < 20; i++) {
            x.load(1 + i, i % 2, 0);
        }
        for (int i = 0; i < 20; i++) {
            x.crosser(i, 0, i % 2, 1 + i, 0, 1);
        }
        Due.law(x, "leave when trips>0; leave when room>weight;");
        for (int k = 1; k <= 20; k++) {
            Due.is("24: " + k + " of twenty", x.right(k), k);
        }
        Due.is("24: 21", x.right(21), NONE);
        // one who takes nothing bears nothing, whatever the toll
        TakeOver y = new TakeOver();
        y.crosser(0, 0, 0, 9, 0, 0);
        y.crosser(0, 0, 0, 0, 0, 0);
        Due.is("24: nothing to bear", y.right(1), NONE);
        y.load(1, 0, 0);
        Due.is("24: one bears for nothing", y.right(1), 0);
        Due.is("24: the other bears nothing", y.right(2), NONE);
    }

    private static void nightBounds() {
        for (Twin twin : ALL) {
            twin.refuses("26: what", NONE, (x, what) -> x.night(what), -1, 3, 4, MIN, MAX);
        }
        for (int many = 0; many <= 20; many++) {
            TakeOver x = new TakeOver();
            for (int i = 0; i < 20; i++) {
                x.crosser(0, 0, 0, 0, 0, 0);
            }
            for (int i = 0; i < many; i++) {
                x.set(2, 19 - i, 1);
            }
            boolean canBe = many <= 8;
            Due.is("26: how many sets of " + many, x.night(0), canBe ? 1 << many : NONE);
            Due.is("26: in all of them", x.night(1), canBe ? 0 : NONE);
            Due.is("26: the least", x.night(2), canBe ? 0 : NONE);
            x.list(0, 0, 0);
            Due.is("26: with a list", x.night(0), canBe ? 1 << many : NONE);
        }
        Twin nine = new Twin("nine maybe", () -> {
            TakeOver x = Twin.makeFull();
            x.set(2, 0, 1);
            return x;
        });
        nine.refuses("26: nine maybe", NONE, (x, what) -> x.night(what), 0, 1, 2);
        Due.yes("26: eight maybe", Twin.makeFull().night(0) != NONE);
    }

    private static void nightWithoutLists() {
        TakeOver x = new TakeOver();
        Due.is("26: nobody, no lists: one set", x.night(0), 1);
        Due.is("26: nobody in it", x.night(1), 0);
        Due.is("26: the least", x.night(2), 0);
        x.load(1, 0, 0);
        x.list(0, 0, 1);
        Due.is("26: nobody, a list that goes", x.night(0), 1);
        Due.is("26: the least", x.night(2), 0);
        x.list(0, 1, 1);
        Due.is("26: nobody, a list that does not go", x.night(0), 0);
        Due.is("26: in all, without any", x.night(1), 0);
        Due.is("26: the least, without any", x.night(2), NONE);
    }

    /** Of crossers 3, 7, 11 and 19 two at least must have crossed, 11 among them. */
    private static void nightSets() {
        TakeOver x = new TakeOver();
        x.bridges(2);
        x.load(1, 0, 0);
        for (int i = 0; i < 20; i++) {
            boolean first = i == 3 || i == 7 || i == 19;
            x.crosser(i == 11 ? 160 : i, i == 11 ? 1 : 0, 0, first || i == 11 ? 1 : 0, 0, 0);
        }
        for (int i : new int[] {3, 7, 11, 19}) {
            x.set(2, i, 1);
        }
        Due.is("26: without lists", x.night(0), 16);
        x.list(167, 2, 1);
        Due.is("26: how many sets", x.night(0), 7);
        Due.is("26: 11 is in all of them", x.night(1), 1 << 11);
        Due.is("26: the least", x.night(2), 1 << 11 | 1 << 3);
        x.image(true);
        x.list(3, 1, 1);
        Due.is("26: with 3", x.night(0), 4);
        Due.is("26: 3 and 11", x.night(1), 1 << 11 | 1 << 3);
        x.image(false);
        x.list(3, 1, 0);
        Due.is("26: without 3", x.night(0), 3);
        Due.is("26: the least", x.night(2), 1 << 11 | 1 << 7);
        x.list(7, 0, 1);
        Due.is("26: without 7, too", x.night(0), 1);
        Due.is("26: just these", x.night(1), 1 << 19 | 1 << 11);
        Due.is("26: the least is the only one", x.night(2), 1 << 19 | 1 << 11);
        x.list(19, 0, 1);
        Due.is("26: without any of them", x.night(0), 0);
        Due.is("26: in all, without any", x.night(1), 0);
        Due.is("26: the least, without any", x.night(2), NONE);
    }

    /** Crosser 1 goes behind 0, and 2 behind 1: who stays away keeps those behind him from crossing. */
    private static void nightBehind() {
        for (int maybe = 0; maybe < 8; maybe++) {
            TakeOver x = new TakeOver();
            for (int i = 0; i < 3; i++) {
                x.load(1, 0, 0);
                x.crosser(4, 0, 0, 1, 0, 0);
                x.set(2, i, maybe >> i & 1);
            }
            x.kind(1, 2, 0);
            x.kind(2, 2, 1);
            x.image(true);
            for (int borne = 0; borne <= 3; borne++) {
                x.image(false);
                x.list(4, 1, (1 << borne) - 1);
                int sets = 0;
                for (int set = 0; set < 8; set++) {
                    int cross = set | ~maybe;
                    int due = (cross & 1) == 0 ? 0 : (cross & 2) == 0 ? 1 : (cross & 4) == 0 ? 2 : 3;
                    sets += (set & ~maybe) == 0 && due == borne ? 1 : 0;
                }
                Due.is("26: " + borne + " borne, maybe " + maybe, x.night(0), sets);
            }
        }
    }

    /** Whatever went by: from hour 0 on as all is told now. */
    private static void nightFromHourNought() {
        for (int now : new int[] {0, 1, 4, 168}) {
            TakeOver x = new TakeOver();
            x.load(5, 0, 1);
            x.crosser(3, 0, 0, 9, 0, 9);
            x.crosser(5, 0, 1, 9, 0, 0);
            x.set(2, 0, 1);
            Due.yes("12: hours", now == 0 || x.hours(now) >= 0);
            x.list(0, 0, 0);
            x.list(1, 0, 1);
            x.list(3, 1, 1);
            x.list(5, 0, 1);
            Due.is("26: now " + now, x.night(0), 1);
            Due.is("26: now " + now, x.night(1), 1);
            x.set(0, 0, 44);
            Due.is("26: with the toll told now he bears nothing", x.night(0), 0);
            x.set(0, 0, 45);
            Due.is("26: with the toll told now he bears it", x.night(0), 1);
            x.set(2, 0, 0);
            Due.is("26: all who are not maybe cross", x.night(0), 1);
            Due.is("26: he is not asked for", x.night(1), 0);
            x.set(2, 1, 1);
            Due.is("26: the other one, behind hour 5", x.night(1), 2);
            Due.is("29: nothing of it stays", x.look(1), now);
        }
    }

    private static void chanceBounds() {
        for (Twin twin : new Twin[] {FRESH, MIDDLE}) {
            for (int w = 0; w <= 1; w++) {
                int what = w;
                twin.bounds("27: p", 0, 10, NONE, (x, v) -> x.chance(v, 5, 3, what), null);
                twin.bounds("27: q", 0, 10, NONE, (x, v) -> x.chance(5, v, 3, what), null);
                twin.bounds("27: n", 1, 8, NONE, (x, v) -> x.chance(5, 5, v, what), null);
            }
            twin.refuses("27: what", NONE, (x, v) -> x.chance(5, 5, 3, v), -1, 2, 3, MIN, MAX);
        }
        TakeOver x = new TakeOver();
        Due.is("27: surely over, of 100 to the 8", x.chance(10, 0, 8, 0), 10000000000000000L);
        Due.is("27: surely from the first hour on", x.chance(10, 0, 8, 1), 1);
        Due.is("27: never over", x.chance(0, 0, 8, 0), 0);
        Due.is("27: never over, the first of all", x.chance(0, 0, 8, 1), 1);
        Due.is("27: surely back", x.chance(10, 10, 8, 0), 0);
        Due.is("27: surely back, the first of all", x.chance(10, 10, 8, 1), 1);
        Due.is("27: always as likely, the first", x.chance(10, 1, 8, 1), 1);
        Due.is("27: one hour alone", x.chance(1, 9, 1, 1), 1);
    }

    /** By fractions, all p, q and n: over behind an hour if it was or comes over, and is not taken back. */
    private static void chanceOfAll() {
        for (int p = 0; p <= 10; p++) {
            TakeOver x = new TakeOver();
            for (int q = 0; q <= 10; q++) {
                BigInteger[] over = new BigInteger[9];
                over[0] = BigInteger.ZERO;
                int likeliest = 1;
                for (int n = 1; n <= 8; n++) {
                    BigInteger not = BigInteger.valueOf(100).pow(n - 1).subtract(over[n - 1]);
                    BigInteger forth = over[n - 1].multiply(BigInteger.TEN).add(not.multiply(BigInteger.valueOf(p)));
                    over[n] = forth.multiply(BigInteger.valueOf(10 - q));
                    BigInteger most = over[likeliest].multiply(BigInteger.valueOf(100).pow(n - likeliest));
                    likeliest = over[n].compareTo(most) > 0 ? n : likeliest;
                    String label = "27: chance(" + p + ", " + q + ", " + n + ", ";
                    Due.is(label + "0)", x.chance(p, q, n, 0), over[n].longValueExact());
                    Due.is(label + "1)", x.chance(p, q, n, 1), likeliest);
                }
            }
        }
    }

    private static void imageOfNothing() {
        FRESH.keeps("28: there is none", 0, x -> x.image(false) ? 1 : 0);
        FULL.keeps("28: there is none", 0, x -> x.image(false) ? 1 : 0);
        TakeOver x = new TakeOver();
        Due.no("28: none", x.image(false));
        Due.yes("28: one of a new object", x.image(true));
        x.bridges(3);
        x.load(1, 0, 0);
        x.hours(5);
        Due.yes("28: gone back", x.image(false));
        Due.is("28: one bridge", x.look(0), 1);
        Due.is("28: no loads", x.look(2), 0);
        Due.is("28: now", x.look(1), 0);
    }

    /** Changes all that can be changed but the tape and the fault. */
    private static void change(TakeOver x) {
        for (int i = 0; i < 4; i++) {
            x.load(3 + i, i % 2, 20);
            x.fetch(i, 1 - i % 2, 40);
            x.crosser(30 + i, 0, i % 2, 50, 0, 1);
            x.kind(i, 1, 3);
            x.set(2, i, 1);
            x.offer(60, 0, 1 - i % 2, 9, 1);
            x.list(10, 0, 1);
        }
        x.set(0, 0, 999);
        x.set(1, 0, 0);
        x.hours(70);
    }

    private static void imageIsAllButTapeAndFault() {
        Twin.Recipe[] recipes = {Twin::makeMiddle, Twin::makeFull, Twin::makeLate, TakeOver::new};
        for (int i = 0; i < recipes.length; i++) {
            Twin.Recipe recipe = recipes[i];
            Twin twin = new Twin("an image of it, " + ALL[i].name, () -> {
                TakeOver x = recipe.make();
                Due.yes("28: taken", x.image(true));
                return x;
            });
            twin.isLike("28: gone back behind changes", () -> {
                TakeOver x = twin.make();
                change(x);
                Due.yes("28: gone back", x.image(false));
                return x;
            });
            twin.isLike("28: gone back behind other bridges", () -> {
                TakeOver x = twin.make();
                x.bridges(3);
                change(x);
                x.bridges(1);
                Due.yes("28: gone back", x.image(false));
                return x;
            });
            twin.keeps("28: gone back at once", 1, x -> x.image(false) ? 1 : 0);
            twin.keeps("28: taken once more", 1, x -> x.image(true) ? 1 : 0);
        }
        TakeOver x = new TakeOver();
        Due.law(x, "leave;");
        Due.tape(x, "take;");
        x.image(true);
        Due.is("10: 'take;'", x.text(), 1);
        Due.law(x, "take when");
        Due.tape(x, "leave; take;");
        x.image(false);
        Due.is("28: the fault is not of the image", x.fault(0), 1);
        Due.is("28: its place is not of the image", x.fault(1), 9);
        x.load(1, 0, 0);
        x.crosser(0, 0, 0, 1, 0, 0);
        Due.is("28: the law is of the image: leave", x.gathers(1, 0, 0), 0);
        Due.is("28: the tape is not of the image", x.text(), 2);
    }

    private static void imageMoreThanOnce() {
        TakeOver x = Twin.makeMiddle();
        x.image(true);
        for (int i = 0; i < 5; i++) {
            change(x);
            Due.is("12: now", x.look(1), 75);
            Due.yes("28: gone back once more", x.image(false));
            Due.is("28: now as it was", x.look(1), 5);
            Due.is("28: loads as they were", x.look(2), 6);
            Due.is("28: the toll as it was", x.look(5), 30);
        }
        x.hours(1);
        Due.yes("28: taken anew", x.image(true));
        x.hours(1);
        Due.yes("28: gone back", x.image(false));
        Due.is("28: the newer one", x.look(1), 6);
        x.bridges(1);
        Due.yes("28: told anew, the image stays", x.image(false));
        Due.is("28: the newer one", x.look(1), 6);
        Due.is("28: its bridges", x.look(0), 2);
    }

    /** With all rows full, with a full book, behind all hours. */
    private static void imageAtTheBounds() {
        TakeOver x = new TakeOver();
        for (int i = 0; i < 30; i++) {
            x.load(1, 0, 0);
        }
        for (int i = 0; i < 20; i++) {
            x.crosser(i, 0, i % 2, 99, 0, 0);
        }
        x.hours(168);
        x.image(true);
        x.bridges(2);
        x.load(7, 2, 0);
        x.crosser(0, 1, 1, 9, 0, 0);
        x.hours(1);
        Due.is("16: another line", x.book(0, 2), 0);
        Due.yes("28: gone back", x.image(false));
        Due.is("28: now", x.look(1), 168);
        Due.is("28: a full book", x.look(4), 300);
        Due.is("28: its last line", x.book(299, 0), 29);
        Due.is("28: its last line", x.book(299, 1), 9);
        Due.is("28: its last line", x.book(299, 2), 9);
        Due.is("28: the thirtieth", x.waits(0, 29), 29);
        Due.is("28: trips", x.of(29, 3), 20);
        Due.is("28: the twentieth", x.who(19, 8), 19);
        Due.is("28: what he bore", x.who(19, 9), 30);
        Due.is("28: no hour is left", x.hours(1), NONE);
    }
}
