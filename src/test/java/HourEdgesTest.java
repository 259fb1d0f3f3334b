/** 'Terms' 2, an hour and a crossing, and promises 12 to 16 and 29, each at its bounds. */
public final class HourEdgesTest {
    private static final int MIN = Integer.MIN_VALUE;
    private static final int MAX = Integer.MAX_VALUE;
    private static final int NONE = TakeOver.NONE;
    private static final int NO_SUCH = NONE - 1;

    private static final Twin FRESH = Twin.fresh();
    private static final Twin MIDDLE = Twin.middle();
    private static final Twin FULL = Twin.full();
    private static final Twin LATE = Twin.late();
    private static final Twin[] ALL = {FRESH, MIDDLE, FULL, LATE};

    public static void main(String[] args) {
        hours();
        hoursOneByOne();
        of();
        who();
        waits();
        book();
        bookIsFull();
        look();
        loadsComeByNumber();
        leftFetchedBorne();
        plainInHisHour();
        waitsByHours();
        waitsTillBare();
        behindHisOwnHour();
        behindAll();
        behindDepthFirst();
        roomByOne();
        roomOfNothing();
        strictByOne();
        tollByOne();
        tollOfMost();
        tollsInAll();
        setDownInOrder();
        fiveHundredAndTwelveCalls();
        Due.end();
    }

    private static void hours() {
        FRESH.bounds("12: hours", 1, 168, NONE, (x, n) -> x.hours(n), x -> x.look(1));
        MIDDLE.bounds("12: hours", 1, 163, NONE, (x, n) -> x.hours(n), x -> x.look(1) - 5);
        FULL.bounds("12: hours", 1, 165, NONE, (x, n) -> x.hours(n), x -> x.look(1) - 3);
        FRESH.refuses("12: hours", NONE, (x, n) -> x.hours(n), -1, 170);
        LATE.refuses("12: hours", NONE, (x, n) -> x.hours(n), -1, 0, 1, 2, 167, 168, MIN, MAX);
        Twin last = new Twin("in the last hour", () -> {
            TakeOver x = Twin.makeMiddle();
            x.hours(162);
            return x;
        });
        last.bounds("12: hours", 1, 1, NONE, (x, n) -> x.hours(n), x -> x.look(1) - 167);
    }

    /** All at once, one by one and in steps it comes to the same. */
    private static void hoursOneByOne() {
        for (int step = 1; step <= 165; step += step < 10 ? 1 : 31) {
            TakeOver x = Twin.makeFull();
            TakeOver y = Twin.makeFull();
            int whole = x.hours(165);
            int sum = 0;
            for (int now = 3; now < 168; now += step) {
                sum += y.hours(Math.min(step, 168 - now));
            }
            Due.is("12: in steps of " + step, sum, whole);
            Due.is("12: now", y.look(1), 168);
            Due.is("12: lines", y.look(4), x.look(4));
            for (int i = 0; i < 30; i++) {
                Due.is("12: where it is", y.of(i, 1), x.of(i, 1));
                Due.is("12: since", y.of(i, 2), x.of(i, 2));
                Due.is("12: trips", y.of(i, 3), x.of(i, 3));
            }
        }
        TakeOver x = new TakeOver();
        Due.is("12: nothing is there, nothing borne", x.hours(168), 0);
    }

    private static void of() {
        int[] loads = {0, 6, 30, 6};
        for (int i = 0; i < ALL.length; i++) {
            Twin twin = ALL[i];
            int count = loads[i];
            for (int what = 0; what <= 5; what++) {
                int asked = what;
                twin.refuses("13: of", NO_SUCH, (x, load) -> x.of(load, asked), -1, count, count + 1, MIN, MAX);
                for (int load = 0; load < count; load++) {
                    Due.yes("13: there is such", twin.make().of(load, what) != NO_SUCH);
                }
            }
            for (int load = 0; load < Math.max(1, count); load += 29) {
                int asked = load;
                twin.refuses("13: what", NO_SUCH, (x, what) -> x.of(asked, what), -1, 6, 7, MIN, MAX);
            }
        }
        TakeOver x = new TakeOver();
        x.load(99, 1, 2);
        x.fetch(0, 0, 5);
        x.crosser(4, 0, 1, 99, 0, 0);
        int[][] due = {{99, NONE, NONE, 0, 2, 0}, {99, NONE, NONE, 0, 2, 0}, {99, 1, 2, 0, 2, 0}, {99, 1, 2, 0, 2, 0},
            {99, 0, 4, 1, 2, 0}, {99, 0, 4, 1, 2, 1}, {99, 0, 4, 1, 2, 1}};
        for (int hour = 0; hour < due.length; hour++) {
            x.hours(1);
            for (int what = 0; what <= 5; what++) {
                Due.is("13: of(0, " + what + ") behind hour " + hour, x.of(0, what), due[hour][what]);
            }
        }
    }

    private static void who() {
        int[] crossers = {0, 8, 20, 8};
        for (int i = 0; i < ALL.length; i++) {
            Twin twin = ALL[i];
            int count = crossers[i];
            for (int what = 0; what <= 11; what++) {
                int asked = what;
                twin.refuses("14: who", NO_SUCH, (x, c) -> x.who(c, asked), -1, count, count + 1, MIN, MAX);
                for (int c = 0; c < count; c++) {
                    Due.yes("14: there is such", twin.make().who(c, what) != NO_SUCH);
                }
            }
            for (int c = 0; c < Math.max(1, count); c += 19) {
                int asked = c;
                twin.refuses("14: what", NO_SUCH, (x, what) -> x.who(asked, what), -1, 12, 13, MIN, MAX);
            }
        }
        TakeOver x = Twin.makeMiddle();
        int[][] due = {{1, 0, 0, 30, 2, 1, 0, 0, 1, 12, 0, 0}, {2, 0, 1, 9, 0, 3, 0, 0, 2, 5, 0, 0},
            {10, 0, 0, 40, 0, 1, 1, 4, NONE, 0, 0, 0}, {50, 0, 0, 8, 0, 0, 2, 2, NONE, 0, 0, 0},
            {12, 1, 0, 25, 1, 0, 0, 0, NONE, 0, 0, 1}, {9, 1, 1, 30, 0, 9, 0, 0, NONE, 0, 0, 1},
            {4, 0, 0, 99, 0, 9, 0, 0, 4, 0, 30, 0}, {60, 1, 0, 99, 0, 0, 0, 0, NONE, 0, 0, 0}};
        for (int c = 0; c < due.length; c++) {
            for (int what = 0; what <= 11; what++) {
                Due.is("14: who(" + c + ", " + what + ")", x.who(c, what), due[c][what]);
            }
        }
    }

    private static void waits() {
        for (Twin twin : ALL) {
            int bridges = twin.make().look(0);
            twin.refuses("15: end", NONE, (x, end) -> x.waits(end, 0), -1, bridges + 1, bridges + 2, MIN, MAX);
            for (int e = 0; e <= bridges; e++) {
                int end = e;
                int count = 0;
                TakeOver x = twin.make();
                while (x.waits(end, count) != NONE) {
                    Due.is("15: it is there", x.of(x.waits(end, count), 1), end);
                    Due.is("15: it is not gone", x.of(x.waits(end, count), 5), 0);
                    count++;
                }
                twin.refuses("15: i", NONE, (y, i) -> y.waits(end, i), -1, count, count + 1, 30, 31, MIN, MAX);
            }
        }
        TakeOver x = new TakeOver();
        for (int i = 0; i < 30; i++) {
            x.load(1, 1, 0);
        }
        Due.is("15: not left yet", x.waits(1, 0), NONE);
        x.hours(1);
        Due.is("15: the first", x.waits(1, 0), 0);
        Due.is("15: the last but one", x.waits(1, 28), 28);
        Due.is("15: the thirtieth", x.waits(1, 29), 29);
        Due.is("15: none behind it", x.waits(1, 30), NONE);
        Due.is("15: none at the other end", x.waits(0, 0), NONE);
        x.fetch(0, 1, 1);
        x.fetch(29, 1, 1);
        x.hours(1);
        Due.is("15: the first is gone", x.waits(1, 0), 1);
        Due.is("15: the last is gone", x.waits(1, 27), 28);
        Due.is("15: the last is gone", x.waits(1, 28), NONE);
    }

    private static void book() {
        for (Twin twin : ALL) {
            int lines = twin.make().look(4);
            for (int w = 0; w <= 2; w++) {
                int what = w;
                twin.refuses("16: line", NONE, (x, i) -> x.book(i, what), -1, lines, lines + 1, 300, MIN, MAX);
                if (lines > 0) {
                    Due.yes("16: the first line", twin.make().book(0, what) != NONE);
                    Due.yes("16: the last line", twin.make().book(lines - 1, what) != NONE);
                }
            }
            twin.refuses("16: what", NONE, (x, what) -> x.book(0, what), -1, 3, 4, MIN, MAX);
        }
        TakeOver x = Twin.makeMiddle();
        int[][] due = {{0, 0, 1}, {1, 0, 1}, {0, 1, 2}};
        Due.is("16: lines", x.look(4), 3);
        for (int i = 0; i < due.length; i++) {
            for (int what = 0; what <= 2; what++) {
                Due.is("16: book(" + i + ", " + what + ")", x.book(i, what), due[i][what]);
            }
        }
    }

    /** 299, 300 and 301 borne in all: the last of them by a crosser of his own. */
    private static void bookIsFull() {
        for (int all = 299; all <= 301; all++) {
            TakeOver x = new TakeOver();
            for (int i = 0; i < 20; i++) {
                x.load(1, 0, 0);
            }
            for (int i = 0; i < 16; i++) {
                x.crosser(i, 0, i % 2, i < 14 ? 20 : i == 14 ? all - 281 : 1, 0, 0);
            }
            Due.is("12: borne but for the last", x.hours(15), all - 1);
            Due.is("16: lines", x.look(4), all - 1);
            Due.is("12: one more is borne", x.hours(1), 1);
            Due.is("16: lines, 300 at most", x.look(4), Math.min(all, 300));
            Due.is("16: line 298", x.book(298, 2), all == 299 ? 15 : 14);
            Due.is("16: line 299", x.book(299, 2), all == 299 ? NONE : all == 300 ? 15 : 14);
            Due.is("16: line 300", x.book(300, 2), NONE);
        }
        bookStaysFull();
    }

    private static void bookStaysFull() {
        TakeOver x = new TakeOver();
        for (int i = 0; i < 30; i++) {
            x.load(1, 0, 0);
        }
        for (int i = 0; i < 20; i++) {
            x.crosser(i, 0, i % 2, 99, 0, 0);
        }
        Due.is("12: borne in ten hours", x.hours(10), 300);
        Due.is("16: full just now", x.look(4), 300);
        x.image(true);
        Due.is("12: borne in ten more", x.hours(10), 300);
        Due.is("16: no more then", x.look(4), 300);
        for (int i = 0; i < 300; i += i < 270 ? 7 : 1) {
            Due.is("16: the load of line " + i + " stays", x.book(i, 0), i % 30);
            Due.is("16: the crosser of line " + i + " stays", x.book(i, 1), i / 30);
            Due.is("16: the hour of line " + i + " stays", x.book(i, 2), i / 30);
        }
        Due.is("13: trips go on", x.of(29, 3), 20);
    }

    private static void look() {
        for (Twin twin : ALL) {
            twin.refuses("29: look", NO_SUCH, (x, what) -> x.look(what), -1, 11, 12, MIN, MAX);
        }
        int[][] due = {{1, 0, 0, 0, 0, NONE, 0, 0, 0, 0, 0}, {2, 5, 6, 8, 3, 30, 1, 1, 3, 2, 30}};
        for (int i = 0; i < due.length; i++) {
            for (int what = 0; what <= 10; what++) {
                Due.is("29: look(" + what + ") [" + ALL[i].name + "]", ALL[i].make().look(what), due[i][what]);
            }
        }
        TakeOver x = Twin.makeFull();
        int[] full = {3, 3, 30, 20, x.look(4), NONE, 0, 16, 8, 20, 0};
        for (int what = 0; what <= 10; what++) {
            Due.is("29: look(" + what + ") of a full one", x.look(what), full[what]);
        }
        Due.is("29: now at the last", Twin.makeLate().look(1), 168);
    }

    private static void loadsComeByNumber() {
        TakeOver x = new TakeOver();
        int[] hours = {2, 1, 2, 0, 2, 1, 0};
        for (int hour : hours) {
            x.load(1, 0, hour);
        }
        int[] due = {3, 6, 1, 5, 0, 2, 4};
        int[] there = {2, 4, 7};
        for (int hour = 0; hour <= 2; hour++) {
            x.hours(1);
            for (int i = 0; i < due.length; i++) {
                Due.is("T2: behind hour " + hour + " the " + i, x.waits(0, i), i < there[hour] ? due[i] : NONE);
            }
        }
    }

    /** In one hour: left, fetched off, then borne. */
    private static void leftFetchedBorne() {
        for (int fetched = 3; fetched <= 5; fetched++) {
            TakeOver x = new TakeOver();
            x.load(1, 0, 4);
            x.crosser(4, 0, 0, 1, 0, 0);
            Due.yes("4: at the end where it is left", x.fetch(0, 0, fetched));
            Due.is("T2: fetched in " + fetched + ", ahead of who crosses in 4", x.hours(9), fetched == 4 ? 0 : 1);
            Due.is("T2: gone", x.of(0, 5), fetched == 4 ? 1 : 0);
            x.bridges(1);
            x.load(1, 0, 4);
            x.crosser(4, 0, 0, 1, 0, 0);
            Due.yes("4: at the end to which it is borne", x.fetch(0, 1, fetched));
            x.hours(9);
            Due.is("T2: set down in 4, fetched in " + fetched, x.of(0, 5), fetched == 5 ? 1 : 0);
        }
    }

    private static void plainInHisHour() {
        for (int hour : new int[] {0, 1, 5, 166, 167}) {
            TakeOver x = new TakeOver();
            x.crosser(hour, 0, 0, 1, 0, 0);
            x.load(1, 0, 0);
            if (hour > 0) {
                Due.is("T2: the hours before " + hour, x.hours(hour), 0);
                Due.is("14: he did not cross yet", x.who(0, 8), NONE);
            }
            Due.is("T2: his hour " + hour, x.hours(1), 1);
            Due.is("14: he crossed", x.who(0, 8), hour);
            if (hour < 167) {
                Due.is("T2: nobody crosses twice", x.hours(167 - hour), 0);
            }
        }
    }

    /** With something there all the time: v hours behind his own, and not one less. */
    private static void waitsByHours() {
        for (int hour : new int[] {0, 1, 100, 143, 144, 166, 167}) {
            for (int v : new int[] {0, 1, 2, 23, 24}) {
                TakeOver x = new TakeOver();
                x.load(50, 0, 0);
                x.crosser(hour, 0, 0, 9, 0, 0);
                x.kind(0, 1, v);
                int due = hour + v;
                if (due > 0) {
                    x.hours(Math.min(168, due));
                    Due.is("T2: the hours before, " + hour + " and " + v, x.who(0, 8), NONE);
                }
                if (due <= 167) {
                    x.hours(1);
                    Due.is("T2: as long as he would, " + hour + " and " + v, x.who(0, 8), due);
                }
            }
        }
    }

    private static void waitsTillBare() {
        for (int fetched = 0; fetched <= 20; fetched++) {
            TakeOver x = new TakeOver();
            x.load(50, 0, 0);
            x.load(50, 1, 0);
            x.fetch(0, 0, fetched);
            x.crosser(5, 0, 0, 9, 0, 0);
            x.kind(0, 1, 10);
            x.hours(168);
            int due = Math.min(15, Math.max(5, fetched));
            Due.is("T2: bare from hour " + fetched, x.who(0, 8), due);
        }
        // bare in the hours before his own and not in it: he waits
        TakeOver x = new TakeOver();
        x.load(50, 0, 5);
        x.crosser(5, 0, 0, 9, 0, 0);
        x.kind(0, 1, 2);
        x.hours(168);
        Due.is("T2: what is left in his hour keeps him", x.who(0, 8), 7);
        waitsByNumber();
    }

    /** One who makes it bare in the same hour: it counts for those of a greater number. */
    private static void waitsByNumber() {
        for (int waiter = 0; waiter <= 2; waiter += 2) {
            TakeOver x = new TakeOver();
            x.load(5, 0, 0);
            for (int i = 0; i < 3; i++) {
                x.crosser(i == 1 ? 3 : 2, 0, 0, 5, i == waiter ? 5 : 0, 0);
            }
            x.kind(waiter, 1, 24);
            x.kind(2 - waiter, 2, waiter);
            x.hours(10);
            Due.is("T2: by number, " + waiter, x.who(waiter, 8), waiter == 0 ? 4 : 3);
        }
        // what is set down at his end in the same hour ahead of him keeps him
        TakeOver x = new TakeOver();
        x.load(5, 1, 0);
        x.crosser(2, 0, 1, 5, 0, 0);
        x.crosser(2, 0, 0, 0, 0, 0);
        x.kind(1, 1, 3);
        x.hours(10);
        Due.is("T2: set down ahead of him", x.who(1, 8), 5);
    }

    private static void behindHisOwnHour() {
        for (int own = 0; own <= 6; own++) {
            TakeOver x = new TakeOver();
            x.load(1, 0, 0);
            x.load(1, 0, 0);
            x.crosser(3, 0, 0, 1, 0, 0);
            x.crosser(own, 0, 0, 1, 0, 0);
            x.kind(1, 2, 0);
            x.hours(168);
            Due.is("T2: his own hour " + own + " is not asked", x.who(1, 8), 3);
            Due.is("T2: behind him", x.book(1, 1), 1);
        }
        // behind one who waits, and behind one who does not cross
        TakeOver x = new TakeOver();
        x.load(9, 0, 0);
        x.crosser(3, 0, 0, 0, 0, 0);
        x.crosser(3, 0, 0, 0, 0, 0);
        x.crosser(167, 0, 0, 0, 0, 0);
        x.crosser(3, 0, 0, 0, 0, 0);
        x.kind(0, 1, 24);
        x.kind(1, 2, 0);
        x.kind(2, 1, 1);
        x.kind(3, 2, 2);
        x.hours(168);
        Due.is("T2: behind one who waits", x.who(1, 8), 27);
        Due.is("T2: behind one who does not cross", x.who(3, 8), NONE);
    }

    /** Twenty in a row, each behind the next greater or the next lesser one. */
    private static void behindAll() {
        for (int turn = 0; turn <= 1; turn++) {
            TakeOver x = new TakeOver();
            for (int i = 0; i < 20; i++) {
                x.load(1, 0, 0);
                x.crosser(7, 0, 0, 1, 0, 0);
            }
            for (int i = 0; i < 19; i++) {
                Due.yes("6: behind", turn == 0 ? x.kind(i + 1, 2, i) : x.kind(i, 2, i + 1));
            }
            Due.is("T2: not in the hours before", x.hours(7), 0);
            Due.is("T2: all twenty at once", x.hours(1), 20);
            for (int i = 0; i < 20; i++) {
                Due.is("16: one behind another", x.book(i, 1), turn == 0 ? i : 19 - i);
                Due.is("16: the oldest first", x.book(i, 0), i);
                Due.is("14: in one hour", x.who(i, 8), 7);
            }
        }
        TakeOver x = new TakeOver();
        for (int i = 0; i < 20; i++) {
            x.load(1, 0, 0);
            x.crosser(7, 0, 0, 1, 0, 0);
        }
        for (int i = 0; i < 20; i++) {
            Due.is("6: nineteen behind one", x.kind(i, 2, 9) ? 1 : 0, i == 9 ? 0 : 1);
        }
        Due.is("T2: all twenty at once", x.hours(8), 20);
        Due.is("16: he is the first", x.book(0, 1), 9);
        for (int i = 1; i < 20; i++) {
            Due.is("16: of several by number", x.book(i, 1), i <= 9 ? i - 1 : i);
        }
    }

    private static void behindDepthFirst() {
        TakeOver x = new TakeOver();
        int[] leader = {3, 3, 0, NONE, 1, 0, 2, NONE};
        for (int i = 0; i < leader.length; i++) {
            x.load(1, 0, 0);
            x.crosser(1, 0, 0, 1, 0, 0);
        }
        for (int i = 0; i < leader.length; i++) {
            Due.is("6: behind", leader[i] != NONE && x.kind(i, 2, leader[i]) ? 1 : 0, leader[i] == NONE ? 0 : 1);
        }
        Due.is("12: all", x.hours(2), 8);
        int[] due = {3, 0, 2, 6, 5, 1, 4, 7};
        for (int i = 0; i < due.length; i++) {
            Due.is("T2: each with all behind him ahead of the next", x.book(i, 1), due[i]);
        }
    }

    private static void roomByOne() {
        for (int room : new int[] {1, 2, 50, 98}) {
            for (int own : new int[] {0, 1, 99 - room}) {
                for (int weight = Math.max(1, room - 1); weight <= room + 1; weight++) {
                    TakeOver x = new TakeOver();
                    x.load(weight, 0, 0);
                    x.crosser(0, 0, 0, Math.min(99, room + own), Math.min(99, room + own) - room, 0);
                    Due.is("T2: weight " + weight + ", room " + room, x.hours(1), weight <= room ? 1 : 0);
                    Due.is("14: what he bore, his own not", x.who(0, 9), weight <= room ? weight : 0);
                    Due.is("14: he crossed", x.who(0, 8), 0);
                }
            }
        }
        // room goes down by what he took: of 3, 3, 3, 1, 2 with room 7 he takes 3, 3, 1
        TakeOver x = new TakeOver();
        for (int weight : new int[] {3, 3, 3, 1, 2}) {
            x.load(weight, 0, 0);
        }
        x.crosser(0, 0, 0, 9, 2, 0);
        Due.is("T2: as much as he can bear", x.hours(1), 3);
        Due.is("T2: the third of them", x.book(2, 0), 3);
        Due.is("14: what he bore", x.who(0, 9), 7);
    }

    private static void roomOfNothing() {
        for (int bears : new int[] {0, 1, 99}) {
            TakeOver x = new TakeOver();
            x.load(1, 0, 0);
            x.crosser(0, 0, 0, bears, bears, 9);
            x.set(0, 0, 0);
            Due.is("T2: no room", x.hours(1), 0);
            Due.is("14: he crossed", x.who(0, 8), 0);
            Due.is("14: he paid nothing", x.who(0, 10), 0);
        }
        TakeOver x = new TakeOver();
        x.load(99, 0, 0);
        x.crosser(0, 0, 0, 99, 0, 0);
        x.crosser(1, 0, 1, 98, 0, 0);
        Due.is("T2: 99 with room 99, not with 98", x.hours(2), 1);
        TakeOver y = new TakeOver();
        y.crosser(0, 0, 0, 99, 0, 9);
        y.set(0, 0, 0);
        Due.is("T2: nothing waits", y.hours(1), 0);
        Due.is("14: he crossed", y.who(0, 8), 0);
        Due.is("29: nothing paid", y.look(10), 0);
    }

    private static void strictByOne() {
        for (int heavy = 4; heavy <= 6; heavy++) {
            for (int strict = 0; strict <= 1; strict++) {
                TakeOver x = new TakeOver();
                x.load(4, 0, 0);
                x.load(heavy, 0, 0);
                x.load(1, 0, 0);
                x.set(1, 0, strict);
                // behind the first one his room is 5
                x.crosser(0, 0, 0, 9, 0, 0);
                int due = heavy == 4 ? 3 : heavy == 5 ? 2 : strict == 1 ? 1 : 2;
                Due.is("T2: strict " + strict + ", heavy " + heavy, x.hours(1), due);
                Due.is("T2: the heavy one", x.of(1, 1), heavy <= 5 ? 1 : 0);
                Due.is("T2: what is behind it", x.of(2, 1), heavy == 4 || heavy == 6 && strict == 0 ? 1 : 0);
            }
        }
        TakeOver x = new TakeOver();
        x.load(6, 0, 0);
        x.load(1, 0, 0);
        x.set(1, 0, 1);
        x.crosser(0, 0, 0, 5, 0, 0);
        Due.is("T2: strict, the first is heavier: he takes nothing", x.hours(1), 0);
        x.bridges(1);
        x.load(5, 0, 0);
        x.load(1, 0, 0);
        x.set(1, 0, 1);
        Due.law(x, "leave when weight=5;");
        x.crosser(0, 0, 0, 5, 0, 0);
        Due.is("T2: one that is left by the law is not heavier", x.hours(1), 1);
    }

    private static void tollByOne() {
        for (int toll = 28; toll <= 32; toll++) {
            TakeOver x = new TakeOver();
            x.load(4, 0, 0);
            x.load(6, 0, 0);
            x.crosser(0, 0, 0, 10, 0, 3);
            x.set(0, 0, toll);
            boolean pays = toll < 30;
            Due.is("T2: 30 with a toll of " + toll, x.hours(1), pays ? 0 : 2);
            Due.is("14: he paid", x.who(0, 10), pays ? toll : 0);
            Due.is("14: he bore", x.who(0, 9), pays ? 0 : 10);
            Due.is("14: he crossed", x.who(0, 8), 0);
            Due.is("13: trips", x.of(0, 3), pays ? 0 : 1);
            Due.is("13: since", x.of(0, 2), 0);
            Due.is("13: where", x.of(1, 1), pays ? 0 : 1);
            Due.is("29: tolls", x.look(10), pays ? toll : 0);
            Due.is("16: lines", x.look(4), pays ? 0 : 2);
        }
        for (int cost = 0; cost <= 9; cost++) {
            TakeOver x = new TakeOver();
            x.load(1, 0, 0);
            x.crosser(0, 0, 0, 1, 0, cost);
            x.set(0, 0, 0);
            Due.is("T2: cost " + cost + " with a toll of 0", x.hours(1), cost == 0 ? 1 : 0);
            Due.is("14: of 0 he paid 0", x.who(0, 10), 0);
        }
    }

    private static void tollOfMost() {
        for (int toll : new int[] {NONE, 0, 889, 890, 891, 892, 998, 999}) {
            TakeOver x = new TakeOver();
            x.load(99, 0, 0);
            x.crosser(0, 0, 0, 99, 0, 9);
            x.set(0, 0, toll);
            boolean pays = toll != NONE && toll < 891;
            Due.is("T2: 891 with a toll of " + toll, x.hours(1), pays ? 0 : 1);
            Due.is("14: he paid", x.who(0, 10), pays ? toll : 0);
        }
    }

    private static void tollsInAll() {
        TakeOver x = new TakeOver();
        x.load(99, 0, 0);
        for (int i = 0; i < 20; i++) {
            x.crosser(i, 0, 0, 99, 0, 9);
        }
        x.set(0, 0, 890);
        for (int i = 0; i < 19; i++) {
            x.hours(1);
            Due.is("29: tolls in all", x.look(10), 890 * (i + 1));
        }
        x.set(0, 0, NONE);
        Due.is("T2: without a toll", x.hours(1), 1);
        Due.is("29: tolls in all stay", x.look(10), 890 * 19);
        Due.is("14: what one paid stays", x.who(0, 10), 890);
    }

    private static void setDownInOrder() {
        TakeOver x = new TakeOver();
        for (int i = 0; i < 4; i++) {
            x.load(1 + i, 0, 3 - i);
            x.load(9, 1, 2);
        }
        x.crosser(3, 0, 0, 8, 0, 0);
        Due.is("T2: 4, 3, then 1", x.hours(4), 3);
        int[] due = {1, 3, 5, 7, 6, 4, 0};
        for (int i = 0; i < due.length; i++) {
            Due.is("T2: behind what waited, in that order", x.waits(1, i), due[i]);
        }
        for (int load = 0; load < 8; load++) {
            boolean borne = load == 0 || load == 4 || load == 6;
            Due.is("T2: trips one more each", x.of(load, 3), borne ? 1 : 0);
            Due.is("13: since", x.of(load, 2), borne ? 3 : 2);
        }
        Due.is("T2: what he left", x.waits(0, 0), 2);
    }

    /** An object is used for so many calls: the last of them is answered as the first. */
    private static void fiveHundredAndTwelveCalls() {
        TakeOver x = new TakeOver();
        x.load(1, 0, 0);
        x.crosser(3, 0, 0, 1, 0, 0);
        for (int call = 3; call <= 510; call++) {
            Due.is("call " + call, x.over(0, 1), 3);
        }
        Due.is("call 511", x.hours(4), 1);
        Due.is("call 512", x.over(0, 1), 4);
    }
}
