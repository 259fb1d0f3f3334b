/** 'Terms' 3, thoughts about loads and promises 17 to 21, each at its bounds; nothing of a thought stays. */
public final class ThoughtEdgesTest {
    private static final int MIN = Integer.MIN_VALUE;
    private static final int MAX = Integer.MAX_VALUE;
    private static final int NONE = TakeOver.NONE;

    private static final Twin FRESH = Twin.fresh();
    private static final Twin MIDDLE = Twin.middle();
    private static final Twin FULL = Twin.full();
    private static final Twin LATE = Twin.late();
    private static final Twin[] ALL = {FRESH, MIDDLE, FULL, LATE};

    public static void main(String[] args) {
        nothingStays();
        overBounds();
        overHours();
        overOfOneThatIsThere();
        overOfSeveralComings();
        back();
        gathersBounds();
        gathersHours();
        bestBounds();
        bestLeast();
        bestIsLastOfAll();
        bestPaysNothing();
        bestBesideTwenty();
        sendBounds();
        sendSoonest();
        sendByNumber();
        sendBesideThirty();
        Due.end();
    }

    private static void nothingStays() {
        Twin.Call[] thoughts = {x -> x.over(0, 1), x -> x.over(4, 0), x -> x.over(3, 1), x -> x.back(0), x -> x.back(5),
            x -> x.gathers(1, 30, 0), x -> x.gathers(1, 167, 1), x -> x.best(0, 0, 99, 5, 167, 0),
            x -> x.best(0, 1, 99, 5, 40, 1), x -> x.send(9, 0, 1, 5, 167, 0), x -> x.send(9, 1, 0, 5, 60, 1),
            x -> x.fewest(1, 1, 60, 0), x -> x.fewest(7, 1, 167, 1), x -> x.right(1), x -> x.right(20),
            x -> x.night(0), x -> x.night(1), x -> x.night(2), x -> x.chance(3, 4, 8, 0), x -> x.chance(3, 4, 8, 1)};
        for (Twin twin : ALL) {
            for (int i = 0; i < thoughts.length; i++) {
                twin.keeps("T3: nothing of thought " + i + " stays", thoughts[i].on(twin.make()), thoughts[i]);
            }
        }
    }

    private static void overBounds() {
        for (Twin twin : ALL) {
            int loads = twin.make().look(2);
            int bridges = twin.make().look(0);
            twin.refuses("17: no load", NONE, (x, load) -> x.over(load, 0), -1, loads, loads + 1, 30, MIN, MAX);
            twin.refuses("17: no end", NONE, (x, end) -> x.over(0, end), -1, bridges + 1, bridges + 2, MIN, MAX);
            twin.refuses("17: no end", NONE, (x, end) -> x.over(loads - 1, end), -1, bridges + 1, MIN, MAX);
        }
        TakeOver x = Twin.makeFull();
        Due.is("17: the last load, when it is left at end 1", x.over(29, 1), 29);
        for (int end = 0; end <= 3; end++) {
            TakeOver y = new TakeOver();
            y.bridges(3);
            y.load(1, end, 2);
            Due.is("17: every end", y.over(0, end), 2);
        }
    }

    /** Left in the hour now, in the next one, in the last one; set down in them. */
    private static void overHours() {
        for (int now : new int[] {0, 1, 100, 166, 167}) {
            for (int hour : new int[] {now, Math.min(167, now + 1), 166, 167}) {
                if (hour < now) {
                    continue;
                }
                TakeOver x = new TakeOver();
                Due.is("12: hours", now == 0 ? 0 : x.hours(now), 0);
                x.load(1, 0, hour);
                Due.is("17: left in " + hour + ", now " + now, x.over(0, 0), hour);
                Due.is("17: nobody bears it", x.over(0, 1), NONE);
                x.crosser(hour, 0, 0, 1, 0, 0);
                Due.is("17: set down in the same hour", x.over(0, 1), hour);
                Due.is("17: it was left there before", x.over(0, 0), hour);
                x.fetch(0, 0, hour);
                Due.is("17: left and fetched off", x.over(0, 0), hour);
                Due.is("17: fetched off first", x.over(0, 1), NONE);
            }
        }
    }

    private static void overOfOneThatIsThere() {
        TakeOver x = new TakeOver();
        x.load(1, 0, 0);
        x.load(1, 0, 0);
        x.fetch(1, 0, 3);
        for (int now = 1; now <= 168; now++) {
            x.hours(1);
            Due.is("17: it is there now, " + now, x.over(0, 0), now);
            Due.is("17: gone or not, now " + now, x.over(1, 0), now <= 3 ? now : NONE);
        }
        Due.is("17: not at the other one", x.over(0, 1), NONE);
    }

    private static void overOfSeveralComings() {
        TakeOver x = new TakeOver();
        x.load(1, 0, 0);
        for (int i = 0; i < 6; i++) {
            x.crosser(10 * (i + 1), 0, i % 2, 1, 0, 0);
        }
        int[] now = {0, 1, 10, 11, 20, 21, 30, 31, 59, 60, 61};
        int[] endNought = {0, 1, 10, 20, 20, 21, 30, 40, 60, 60, 61};
        int[] endOne = {10, 10, 10, 11, 20, 30, 30, 31, 59, 60, NONE};
        for (int i = 0; i < now.length; i++) {
            if (now[i] > x.look(1)) {
                x.hours(now[i] - x.look(1));
            }
            Due.is("17: end 0, now " + now[i], x.over(0, 0), endNought[i]);
            Due.is("17: end 1, now " + now[i], x.over(0, 1), endOne[i]);
        }
    }

    private static void back() {
        for (Twin twin : ALL) {
            int loads = twin.make().look(2);
            twin.refuses("18: no load", NONE, (x, load) -> x.back(load), -1, loads, loads + 1, 30, MIN, MAX);
            for (int load = 0; load < loads; load += Math.max(1, loads - 1)) {
                Due.yes("18: there is such", twin.make().back(load) != NONE);
            }
        }
        TakeOver x = new TakeOver();
        x.load(1, 0, 0);
        x.load(1, 0, 167);
        x.crosser(0, 0, 0, 1, 0, 0);
        x.crosser(5, 0, 1, 1, 0, 0);
        x.crosser(167, 0, 0, 2, 0, 0);
        for (int now = 0; now <= 168; now += now == 0 || now >= 4 && now < 7 || now >= 166 ? 1 : now == 1 ? 3 : 159) {
            if (now > x.look(1)) {
                x.hours(now - x.look(1));
            }
            Due.is("18: in all, now " + now, x.back(0), 3);
            Due.is("18: borne in the last hour, now " + now, x.back(1), 1);
        }
        Due.is("12: now is 168", x.look(1), 168);
        TakeOver y = new TakeOver();
        y.load(1, 0, 0);
        for (int i = 0; i < 20; i++) {
            y.crosser(i, 0, i % 2, 1, 0, 0);
        }
        Due.is("18: twenty", y.back(0), 20);
        for (int fetched = 0; fetched <= 21; fetched++) {
            y.fetch(0, fetched % 2, fetched);
            Due.is("18: up to when it is fetched off", y.back(0), Math.min(20, fetched));
            y.fetch(0, 1 - fetched % 2, fetched);
            Due.is("18: not at that end", y.back(0), 20);
        }
    }

    private static void gathersBounds() {
        for (Twin twin : ALL) {
            int now = twin.make().look(1);
            int bridges = twin.make().look(0);
            for (int w = 0; w <= 1; w++) {
                int what = w;
                twin.refuses("19: end", NONE, (x, end) -> x.gathers(end, 167, what), -1, bridges + 1, MIN, MAX);
                if (now < 168) {
                    twin.bounds("19: hour", now, 167, NONE, (x, hour) -> x.gathers(0, hour, what), null);
                    twin.bounds("19: end", 0, bridges, NONE, (x, end) -> x.gathers(end, 167, what), null);
                }
                twin.refuses("19: hour", NONE, (x, hour) -> x.gathers(0, hour, what), -1, now - 1, 168, 169);
            }
            twin.refuses("19: what", NONE, (x, what) -> x.gathers(0, 167, what), -1, 2, 3, MIN, MAX);
        }
        LATE.refuses("19: no hour is left", NONE, (x, hour) -> x.gathers(0, hour, 0), 0, 166, 167, 168);
    }

    /** Behind an hour: what is left, set down and fetched off in it counts. */
    private static void gathersHours() {
        TakeOver x = new TakeOver();
        x.load(99, 0, 4);
        x.load(98, 1, 2);
        x.crosser(6, 0, 0, 99, 0, 0);
        x.fetch(1, 1, 8);
        x.fetch(0, 1, 167);
        for (int hour = 0; hour <= 167; hour++) {
            boolean first = hour >= 4 && hour < 6;
            Due.is("19: end 0 behind " + hour, x.gathers(0, hour, 0), first ? 1 : 0);
            int count = (hour >= 2 && hour < 8 ? 1 : 0) + (hour >= 6 && hour < 167 ? 1 : 0);
            Due.is("19: end 1 behind " + hour, x.gathers(1, hour, 0), count);
        }
        Due.is("19: weight", x.gathers(0, 4, 1), 99);
        Due.is("19: weight", x.gathers(1, 6, 1), 197);
        Due.is("19: weight", x.gathers(1, 166, 1), 99);
        Due.is("19: weight of nothing", x.gathers(1, 167, 1), 0);
        TakeOver y = new TakeOver();
        for (int i = 0; i < 30; i++) {
            y.load(99, 0, 0);
        }
        Due.is("19: thirty", y.gathers(0, 0, 0), 30);
        Due.is("19: their weight", y.gathers(0, 0, 1), 2970);
    }

    private static void bestBounds() {
        for (int w = 0; w <= 1; w++) {
            int what = w;
            FRESH.bounds("20: bridge", 0, 0, NONE, (x, v) -> x.best(v, 0, 9, 0, 9, what), null);
            FRESH.bounds("20: way", 0, 1, NONE, (x, v) -> x.best(0, v, 9, 0, 9, what), null);
            FRESH.bounds("20: bears", 0, 99, NONE, (x, v) -> x.best(0, 0, v, 0, 9, what), null);
            FRESH.bounds("20: from", 0, 167, NONE, (x, v) -> x.best(0, 0, 9, v, 167, what), null);
            FRESH.bounds("20: until", 0, 167, NONE, (x, v) -> x.best(0, 0, 9, 0, v, what), null);
            MIDDLE.bounds("20: bridge", 0, 1, NONE, (x, v) -> x.best(v, 0, 9, 5, 9, what), null);
            MIDDLE.bounds("20: bears", 0, 99, NONE, (x, v) -> x.best(0, 0, v, 5, 9, what), null);
            MIDDLE.bounds("20: from", 5, 20, NONE, (x, v) -> x.best(0, 0, 9, v, 20, what), null);
            MIDDLE.bounds("20: until", 20, 167, NONE, (x, v) -> x.best(0, 0, 9, 20, v, what), null);
            FULL.bounds("20: bridge", 0, 2, NONE, (x, v) -> x.best(v, 0, 9, 3, 9, what), null);
            FULL.bounds("20: from", 3, 167, NONE, (x, v) -> x.best(0, 0, 9, v, 167, what), null);
            LATE.refuses("20: no hour is left", NONE, (x, v) -> x.best(0, 0, 9, v, v, what), 0, 166, 167, 168);
        }
        for (Twin twin : new Twin[] {FRESH, MIDDLE, FULL}) {
            twin.refuses("20: what", NONE, (x, v) -> x.best(0, 0, 9, 5, 9, v), -1, 2, 3, MIN, MAX);
        }
        TakeOver x = new TakeOver();
        for (int hour = 0; hour <= 167; hour++) {
            Due.is("20: one hour alone", x.best(0, 0, 9, hour, hour, 0), hour);
        }
        Due.is("20: all hours, the first", x.best(0, 0, 9, 0, 167, 0), 0);
        Due.is("20: nothing to bear", x.best(0, 0, 9, 0, 167, 1), 0);
    }

    /** What waits hour by hour is 5, 4, 4, 3, 3, 4, then nothing from hour 9 on. */
    private static void bestLeast() {
        TakeOver x = new TakeOver();
        int[] weight = {5, 4, 4, 3, 3, 4};
        for (int i = 0; i < weight.length; i++) {
            // one load an hour of its own: left in it, fetched off in the next, when the next one is left
            x.load(weight[i], 0, i);
            x.fetch(i, 0, i == weight.length - 1 ? 9 : i + 1);
        }
        int[][] due = {{0, 0, 0, 5}, {0, 1, 1, 4}, {0, 2, 1, 4}, {1, 2, 1, 4}, {2, 2, 2, 4}, {0, 3, 3, 3}, {0, 4, 3, 3},
            {3, 4, 3, 3}, {4, 5, 4, 3}, {5, 5, 5, 4}, {5, 8, 5, 4}, {0, 8, 3, 3}, {0, 9, 9, 0}, {0, 167, 9, 0},
            {10, 167, 10, 0}, {167, 167, 167, 0}};
        for (int[] d : due) {
            Due.is("20: hour of " + d[0] + " .. " + d[1], x.best(0, 0, 99, d[0], d[1], 0), d[2]);
            Due.is("20: weight of " + d[0] + " .. " + d[1], x.best(0, 0, 99, d[0], d[1], 1), d[3]);
        }
        Due.is("20: too heavy is not borne", x.best(0, 0, 4, 0, 1, 0), 0);
        Due.is("20: too heavy is not borne", x.best(0, 0, 4, 0, 1, 1), 0);
        Due.is("20: as heavy as he bears", x.best(0, 0, 5, 0, 0, 1), 5);
        Due.is("20: nothing to bear with", x.best(0, 0, 0, 0, 0, 1), 0);
    }

    private static void bestIsLastOfAll() {
        TakeOver x = new TakeOver();
        for (int i = 0; i < 4; i++) {
            x.load(1, 0, 0);
            x.crosser(i == 3 ? 3 : 5, 0, 0, 1, 0, 0);
        }
        x.kind(0, 2, 3);
        x.kind(1, 2, 0);
        x.kind(2, 1, 0);
        int[] due = {4, 4, 4, 1, 1, 0, 0};
        for (int hour = 0; hour < due.length; hour++) {
            Due.is("20: behind all of hour " + hour, x.best(0, 0, 99, hour, hour, 1), due[hour]);
            Due.is("20: from the other end", x.best(0, 1, 99, hour, hour, 1), 4 - due[hour]);
        }
        x.offer(2, 0, 0, 99, 0);
        Due.is("20: nobody is hired", x.best(0, 0, 99, 2, 2, 1), 4);
        // what he would bear is still there for those who cross in later hours of the same thought
        Due.is("20: each hour for itself", x.best(0, 0, 99, 0, 4, 1), 1);
    }

    private static void bestPaysNothing() {
        for (int toll : new int[] {NONE, 0, 1, 999}) {
            TakeOver x = new TakeOver();
            x.load(99, 0, 0);
            x.set(0, 0, toll);
            Due.is("20: cost 0, toll " + toll, x.best(0, 0, 99, 0, 0, 1), 99);
        }
        TakeOver x = new TakeOver();
        x.load(3, 0, 0);
        x.load(6, 0, 0);
        x.load(1, 0, 0);
        Due.is("20: not strict", x.best(0, 0, 5, 0, 0, 1), 4);
        x.set(1, 0, 1);
        Due.is("20: strict", x.best(0, 0, 5, 0, 0, 1), 3);
        Due.law(x, "leave when own>0 or weight=3;");
        Due.is("20: by the law, with no own", x.best(0, 0, 5, 0, 0, 1), 0);
        Due.is("20: by the law, with no own", x.best(0, 0, 6, 0, 0, 1), 6);
    }

    private static void bestBesideTwenty() {
        for (int count = 19; count <= 20; count++) {
            TakeOver x = new TakeOver();
            x.load(7, 0, 0);
            for (int i = 0; i < count; i++) {
                x.crosser(9, 0, 0, 0, 0, 0);
            }
            Due.is("20: beside " + count, x.best(0, 0, 9, 0, 9, 1), 7);
            Due.is("29: as many as before", x.look(3), count);
        }
    }

    private static void sendBounds() {
        Twin twin = new Twin("some who cross forth", ThoughtEdgesTest::carriers);
        for (int w = 0; w <= 1; w++) {
            int what = w;
            twin.bounds("21: weight", 1, 99, NONE, (x, v) -> x.send(v, 0, 1, 5, 100, what), null);
            twin.bounds("21: from", 5, 150, NONE, (x, v) -> x.send(1, 0, 1, v, 150, what), null);
            twin.bounds("21: until", 5, 167, NONE, (x, v) -> x.send(1, 0, 1, 5, v, what), null);
            twin.refuses("21: end", NONE, (x, v) -> x.send(1, v, 0, 5, 100, what), -1, 3, 0, MIN, MAX);
            twin.refuses("21: end", NONE, (x, v) -> x.send(1, v, 1, 5, 100, what), -1, 3, 1, MIN, MAX);
            twin.refuses("21: to", NONE, (x, v) -> x.send(1, 0, v, 5, 100, what), -1, 3, 0, MIN, MAX);
            twin.refuses("21: to", NONE, (x, v) -> x.send(1, 2, v, 5, 100, what), -1, 3, 2, MIN, MAX);
            twin.refuses("21: never back", NONE, (x, v) -> x.send(1, 2, v, 5, 100, what), 0, 1);
            twin.refuses("21: from behind until", NONE, (x, v) -> x.send(1, 0, 1, v, v - 1, what), 6, 100, 167, 168);
            FULL.refuses("21: thirty loads", NONE, (x, v) -> x.send(v, 0, 1, 3, 167, what), 1, 99);
            LATE.refuses("21: no hour is left", NONE, (x, v) -> x.send(1, 0, 1, v, v, what), 0, 166, 167, 168);
        }
        twin.refuses("21: what", NONE, (x, what) -> x.send(1, 0, 1, 5, 100, what), -1, 2, 3, MIN, MAX);
        TakeOver x = twin.make();
        Due.is("21: from end 0 to 2", x.send(1, 0, 2, 5, 100, 1), 10);
        Due.is("21: from end 1 to 2", x.send(1, 1, 2, 5, 100, 1), 10);
        Due.is("21: nothing of it stays", x.look(2), 0);
    }

    /** Two bridges, hour 5: in 10, 30 .. 150 and 167 one crosses bridge 0 forth and another one bridge 1. */
    private static TakeOver carriers() {
        TakeOver x = new TakeOver();
        x.bridges(2);
        for (int i = 0; i < 20; i++) {
            x.crosser(Math.min(167, i / 2 * 20 + 10), i % 2, 0, 99, 0, 0);
        }
        x.hours(5);
        return x;
    }

    private static void sendSoonest() {
        TakeOver x = carriers();
        int[][] due = {{5, 5, 5, 10}, {5, 9, 9, 10}, {5, 10, 10, 10}, {5, 11, 10, 10}, {5, 167, 10, 10}, {9, 167, 10, 10},
            {10, 10, 10, 10}, {10, 167, 10, 10}, {11, 11, 11, 30}, {11, 30, 30, 30}, {11, 167, 30, 30},
            {151, 167, 167, 167}, {167, 167, 167, 167}, {151, 166, 166, 167}};
        for (int[] d : due) {
            Due.is("21: hour of " + d[0] + " .. " + d[1], x.send(99, 0, 1, d[0], d[1], 0), d[2]);
            Due.is("21: when, of " + d[0] + " .. " + d[1], x.send(99, 0, 1, d[0], d[1], 1), d[3]);
            Due.is("21: two bridges, " + d[0] + " .. " + d[1], x.send(99, 0, 2, d[0], d[1], 0), d[2]);
            Due.is("21: two bridges, " + d[0] + " .. " + d[1], x.send(99, 0, 2, d[0], d[1], 1), d[3]);
        }
        TakeOver y = new TakeOver();
        y.crosser(3, 0, 0, 50, 0, 0);
        Due.is("21: as heavy as he bears", y.send(50, 0, 1, 0, 9, 0), 3);
        Due.is("21: one heavier", y.send(51, 0, 1, 0, 9, 0), NONE);
        Due.is("21: one heavier", y.send(51, 0, 1, 0, 9, 1), NONE);
        Due.is("21: never, behind him", y.send(50, 0, 1, 4, 9, 0), NONE);
        y.offer(5, 0, 0, 99, 0);
        Due.is("21: nobody is hired", y.send(50, 0, 1, 4, 9, 0), NONE);
    }

    /** Left in one hour with another load the one more is behind it. */
    private static void sendByNumber() {
        TakeOver x = new TakeOver();
        x.load(5, 0, 2);
        x.crosser(4, 0, 0, 5, 0, 0);
        x.crosser(6, 0, 0, 5, 0, 0);
        Due.is("21: the hour before the other's", x.send(5, 0, 1, 0, 9, 0), 1);
        Due.is("21: the hour before the other's", x.send(5, 0, 1, 0, 9, 1), 4);
        Due.is("21: in the other's hour", x.send(5, 0, 1, 2, 2, 1), 6);
        Due.is("21: from the other's hour on", x.send(5, 0, 1, 2, 9, 0), 6);
        // by this law one left later is there sooner
        Due.law(x, "leave when since>1;");
        Due.is("21: the first hours are not the best", x.send(5, 0, 1, 0, 9, 0), 4);
        Due.is("21: the first hours are not the best", x.send(5, 0, 1, 0, 9, 1), 4);
        Due.is("21: too early for both", x.send(5, 0, 1, 0, 2, 1), NONE);
        Due.is("21: just early enough", x.send(5, 0, 1, 0, 3, 0), 3);
    }

    private static void sendBesideThirty() {
        for (int count = 28; count <= 30; count++) {
            TakeOver x = new TakeOver();
            for (int i = 0; i < count; i++) {
                x.load(99, 1, 0);
            }
            x.crosser(3, 0, 0, 9, 0, 0);
            Due.is("21: beside " + count, x.send(9, 0, 1, 0, 9, 0), count == 30 ? NONE : 3);
            Due.is("21: beside " + count, x.send(9, 0, 1, 0, 9, 1), count == 30 ? NONE : 3);
            Due.is("29: as many as before", x.look(2), count);
            Due.is("3: the next number", x.load(1, 0, 0), count == 30 ? NONE : count);
        }
    }
}
