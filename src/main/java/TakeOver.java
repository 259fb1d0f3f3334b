import java.util.Arrays;

/** Bridges in a row: whoever crosses one must take over what waits at his end of it. */
public final class TakeOver {

    public static final int NONE = -1;

    private static final int NO_SUCH = NONE - 1;

    private static final int HOURS = 168;
    private static final int LAST_HOUR = HOURS - 1;
    private static final int MOST_BRIDGES = 3;
    private static final int MOST_ENDS = MOST_BRIDGES + 1;
    private static final int MOST_LOADS = 30;
    private static final int MOST_CROSSERS = 20;
    private static final int MOST_OFFERS = 8;
    private static final int MOST_LISTS = 20;
    private static final int MOST_MAYBE = 8;
    private static final int MOST_WEIGHT = 99;
    private static final int MOST_BEARS = 99;
    private static final int MOST_COST = 9;
    private static final int MOST_WAIT = 24;
    private static final int MOST_TOLL = 999;
    private static final int MOST_PRICE = 999;
    private static final int MOST_RIGHT_TOLL = 300;
    private static final int MOST_BOOK_LINES = 300;
    private static final int MOST_BYTES = 400;
    private static final int MOST_LAW_LINES = 16;
    private static final int MOST_OPEN = 8;
    private static final int MOST_CHANCE_HOURS = 8;
    private static final int TENTHS = 10;

    private static final int PLAIN = 0;
    private static final int WAITS = 1;
    private static final int BEHIND = 2;

    /** Far above what eight open brackets and the joints between them can pile up. */
    private static final int STACK = 64;

    private static final int FACTS = 7;
    private static final int FACT_WEIGHT = 0;
    private static final int FACT_ROOM = 1;
    private static final int FACT_SINCE = 2;
    private static final int FACT_HEAP = 3;
    private static final int FACT_OWN = 4;
    private static final int FACT_HOUR = 5;
    private static final int FACT_TRIPS = 6;

    private static final int FAULT_PLACE = 1;
    private static final int FAULT_ZERO = 2;
    private static final int FAULT_MANY = 3;

    /** Tokens; in a law's code a number stands as itself, a token as its negative. */
    private static final int T_END = 0;
    private static final int T_NUMBER = 1;
    private static final int T_TAKE = 2;
    private static final int T_LEAVE = 3;
    private static final int T_WHEN = 4;
    private static final int T_OR = 5;
    private static final int T_AND = 6;
    private static final int T_NOT = 7;
    private static final int T_WEIGHT = 8;
    private static final int T_TRIPS = 14;
    private static final int T_STOP = 15;
    private static final int T_PLUS = 16;
    private static final int T_MINUS = 17;
    private static final int T_TIMES = 18;
    private static final int T_PART = 19;
    private static final int T_OPEN = 20;
    private static final int T_CLOSE = 21;
    private static final int T_LESS = 22;
    private static final int T_SAME = 23;
    private static final int T_MORE = 24;
    private static final int T_BAD = 25;

    /** What a reader of a law awaits next. */
    private static final int AT_LINE = 0;
    private static final int AT_HEAD = 1;
    private static final int AT_CONDITION = 2;
    private static final int AT_UNIT = 3;
    private static final int AT_DIVISOR = 4;
    private static final int BEHIND_LEFT = 5;
    private static final int BEHIND_RIGHT = 6;
    private static final int BEHIND_CLOSE = 7;
    private static final int AT_REST = 8;

    private final Told told;
    private final State state;
    private final Book record;
    private final Reader reader;
    private final Course course;
    private final State thought;
    private final Told oldTold;
    private final State oldState;
    private final Book oldRecord;
    private boolean imageTaken;

    public TakeOver() {
        told = new Told();
        state = new State();
        record = new Book();
        reader = new Reader();
        thought = new State();
        course = new Course(told, record, thought);
        oldTold = new Told();
        oldState = new State();
        oldRecord = new Book();
        imageTaken = false;
    }

    public boolean bridges(int n) {
        if (n < 1 || n > MOST_BRIDGES) {
            return false;
        }
        told.clear(n);
        state.clear();
        record.lines = 0;
        return true;
    }

    public int load(int weight, int end, int hour) {
        if (weight < 1 || weight > MOST_WEIGHT || !told.hasEnd(end) || !isAhead(hour)) {
            return NONE;
        }
        return told.loads.add(weight, end, hour);
    }

    public boolean fetch(int load, int end, int hour) {
        if (!told.loads.has(load)) {
            return false;
        }
        if (end == NONE) {
            told.loads.fetchEnd[load] = NONE;
            return true;
        }
        if (!told.hasEnd(end) || !isAhead(hour)) {
            return false;
        }
        told.loads.fetchEnd[load] = end;
        told.loads.fetchHour[load] = hour;
        return true;
    }

    public int crosser(int hour, int bridge, int way, int bears, int own, int cost) {
        if (!isAhead(hour) || !isWalk(bridge, way, bears)) {
            return NONE;
        }
        if (own < 0 || own > bears || cost < 0 || cost > MOST_COST) {
            return NONE;
        }
        return told.crossers.add(hour, bridge, way, bears, own, cost);
    }

    public boolean kind(int crosser, int kind, int v) {
        Crossers all = told.crossers;
        if (!all.has(crosser) || state.crossedAt[crosser] != NONE) {
            return false;
        }
        if (kind == PLAIN) {
            all.tellKind(crosser, PLAIN, 0);
            return true;
        }
        boolean canBe = kind == WAITS && v >= 0 && v <= MOST_WAIT
                || kind == BEHIND && all.canFollow(crosser, v);
        if (canBe) {
            all.tellKind(crosser, kind, v);
        }
        return canBe;
    }

    public boolean set(int what, int i, int v) {
        switch (what) {
            case 0:
                if (v != NONE && (v < 0 || v > MOST_TOLL)) {
                    return false;
                }
                told.toll = v;
                return true;
            case 1:
                if (v != 0 && v != 1) {
                    return false;
                }
                told.strict = v;
                return true;
            case 2:
                if (!told.crossers.has(i) || v != 0 && v != 1) {
                    return false;
                }
                told.crossers.maybe[i] = v;
                return true;
            default:
                return false;
        }
    }

    public int feed(int a, int b, int c, int d, int e) {
        return reader.take(a, b, c, d, e);
    }

    public boolean end(int n) {
        return reader.cut(n);
    }

    public int text() {
        reader.readLaw();
        if (reader.failure != 0) {
            return NONE;
        }
        told.law.copyFrom(reader.draft);
        return told.law.lines;
    }

    public int fault(int what) {
        switch (what) {
            case 0:
                return reader.failure;
            case 1:
                return reader.failurePlace;
            default:
                return NONE;
        }
    }

    public int hours(int n) {
        if (n < 1 || n > HOURS - state.now) {
            return NONE;
        }
        int until = state.now + n - 1;
        course.plan.make(told, state.now);
        course.begin(state);
        course.written = true;
        course.goOn(until);
        return course.borne;
    }

    public int of(int load, int what) {
        if (!told.loads.has(load)) {
            return NO_SUCH;
        }
        switch (what) {
            case 0:
                return told.loads.weight[load];
            case 1:
                return state.end[load];
            case 2:
                return state.since[load];
            case 3:
                return state.trips[load];
            case 4:
                return told.loads.hour[load];
            case 5:
                return state.gone[load];
            default:
                return NO_SUCH;
        }
    }

    public int who(int crosser, int what) {
        if (!told.crossers.has(crosser)) {
            return NO_SUCH;
        }
        switch (what) {
            case 8:
                return state.crossedAt[crosser];
            case 9:
                return state.bore[crosser];
            case 10:
                return state.paid[crosser];
            default:
                return told.crossers.tell(crosser, what);
        }
    }

    public int waits(int end, int i) {
        if (!told.hasEnd(end) || i < 0 || i >= state.waiting[end]) {
            return NONE;
        }
        return state.row[end * MOST_LOADS + i];
    }

    public int book(int i, int what) {
        if (i < 0 || i >= record.lines) {
            return NONE;
        }
        switch (what) {
            case 0:
                return record.loads[i];
            case 1:
                return record.crossers[i];
            case 2:
                return record.hours[i];
            default:
                return NONE;
        }
    }

    public int over(int load, int end) {
        if (!told.loads.has(load) || !told.hasEnd(end)) {
            return NONE;
        }
        if (state.isAt(load, end)) {
            return state.now;
        }
        course.plan.make(told, state.now);
        think();
        course.watch(load, end);
        course.goOn(LAST_HOUR);
        return course.met;
    }

    public int back(int load) {
        if (!told.loads.has(load)) {
            return NONE;
        }
        course.plan.make(told, state.now);
        think();
        course.goOn(LAST_HOUR);
        return thought.trips[load];
    }

    public int gathers(int end, int hour, int what) {
        if (!told.hasEnd(end) || !isAhead(hour) || what < 0 || what > 1) {
            return NONE;
        }
        course.plan.make(told, state.now);
        think();
        course.goOn(hour);
        return what == 0 ? thought.waiting[end] : thought.weightAt(end, told.loads);
    }

    public int best(int bridge, int way, int bears, int from, int until, int what) {
        if (!isWalk(bridge, way, bears) || !isSpan(from, until) || what < 0 || what > 1) {
            return NONE;
        }
        course.plan.make(told, state.now);
        think();
        course.goOn(from - 1);
        int bestHour = NONE;
        int least = NONE;
        for (int hour = from; hour <= until; hour++) {
            course.goOn(hour);
            int borne = course.choose(bridge + way, bears, 0, hour);
            if (least == NONE || borne < least) {
                least = borne;
                bestHour = hour;
            }
        }
        return what == 0 ? bestHour : least;
    }

    public int send(int weight, int end, int to, int from, int until, int what) {
        if (weight < 1 || weight > MOST_WEIGHT || !told.hasEnd(end) || !told.hasEnd(to) || end == to) {
            return NONE;
        }
        if (!isSpan(from, until) || what < 0 || what > 1) {
            return NONE;
        }
        course.plan.make(told, state.now);
        int load = told.loads.add(weight, end, from);
        if (load == NONE) {
            return NONE;
        }
        int bestHour = NONE;
        int soonest = NONE;
        int latest = until;
        for (int hour = from; hour <= latest; hour++) {
            int there = arrival(load, to, hour, soonest == NONE ? LAST_HOUR : soonest);
            if (there != NONE) {
                soonest = there;
                bestHour = hour;
                // A load left behind the soonest hour can't be there in it.
                latest = Math.min(until, soonest);
            }
        }
        told.loads.dropLast();
        return what == 0 ? bestHour : soonest;
    }

    public int offer(int hour, int bridge, int way, int bears, int price) {
        if (!isAhead(hour) || !isWalk(bridge, way, bears) || price < 0 || price > MOST_PRICE) {
            return NONE;
        }
        return told.offers.add(hour, bridge, way, bears, price);
    }

    public int fewest(int set, int end, int hour, int what) {
        if (set == 0 || !told.loads.hasAll(set) || !told.hasEnd(end) || !isAhead(hour)) {
            return NONE;
        }
        if (what < 0 || what > 1) {
            return NONE;
        }
        course.plan.make(told, state.now);
        int bestSet = NONE;
        int bestSize = 0;
        int bestPrice = 0;
        int sets = 1 << told.offers.count;
        for (int hired = 0; hired < sets; hired++) {
            int size = Integer.bitCount(hired);
            int price = told.offers.priceOf(hired);
            boolean less = bestSet == NONE || size < bestSize || size == bestSize && price < bestPrice;
            if (less && isEnough(hired, set, end, hour)) {
                bestSet = hired;
                bestSize = size;
                bestPrice = price;
            }
        }
        return what == 0 || bestSet == NONE ? bestSet : bestPrice;
    }

    public int right(int k) {
        if (k < 1 || k > MOST_CROSSERS) {
            return NONE;
        }
        course.plan.make(told, state.now);
        int toll = 0;
        for (int tries = 0; tries <= MOST_RIGHT_TOLL && toll <= MOST_RIGHT_TOLL; tries++) {
            think();
            course.toll = toll;
            course.goOn(LAST_HOUR);
            if (thought.bearersSince(state.now, told.crossers.count) >= k) {
                return toll;
            }
            if (course.leastAbove == NONE) {
                return NONE;
            }
            // Nobody decides otherwise with a toll between this one and the least that was above it.
            toll = course.leastAbove;
        }
        return NONE;
    }

    public boolean list(int hour, int end, int set) {
        if (hour < 0 || hour > LAST_HOUR || !told.hasEnd(end) || !told.loads.hasAll(set)) {
            return false;
        }
        return told.lists.add(hour, end, set);
    }

    public int night(int what) {
        int maybe = told.crossers.maybeSet();
        int many = Integer.bitCount(maybe);
        if (many > MOST_MAYBE || what < 0 || what > 2) {
            return NONE;
        }
        course.plan.make(told, 0);
        int fitting = 0;
        int inAll = maybe;
        int least = NONE;
        int chosen = 0;
        for (int tries = 0; tries < 1 << many; tries++) {
            if (goesWithLists(maybe & ~chosen)) {
                fitting++;
                inAll &= chosen;
                least = least == NONE ? chosen : least;
            }
            // The next greater set of those that are maybe.
            chosen = (chosen - maybe) & maybe;
        }
        if (what == 0) {
            return fitting;
        }
        return what == 2 ? least : fitting == 0 ? 0 : inAll;
    }

    public long chance(int p, int q, int n, int what) {
        if (p < 0 || p > TENTHS || q < 0 || q > TENTHS || n < 1 || n > MOST_CHANCE_HOURS) {
            return NONE;
        }
        if (what < 0 || what > 1) {
            return NONE;
        }
        long whole = 1;
        long isOver = 0;
        long most = 0;
        int likeliest = 1;
        for (int hour = 1; hour <= n; hour++) {
            isOver = (isOver * TENTHS + (whole - isOver) * p) * (TENTHS - q);
            whole = whole * TENTHS * TENTHS;
            most = most * TENTHS * TENTHS;
            if (isOver > most) {
                most = isOver;
                likeliest = hour;
            }
        }
        return what == 0 ? isOver : likeliest;
    }

    public boolean image(boolean taken) {
        if (taken) {
            oldTold.copyFrom(told);
            oldState.copyFrom(state);
            oldRecord.copyFrom(record);
            imageTaken = true;
        } else if (imageTaken) {
            told.copyFrom(oldTold);
            state.copyFrom(oldState);
            record.copyFrom(oldRecord);
        }
        return imageTaken;
    }

    public int look(int what) {
        switch (what) {
            case 0:
                return told.bridgeCount;
            case 1:
                return state.now;
            case 2:
                return told.loads.count;
            case 3:
                return told.crossers.count;
            case 4:
                return record.lines;
            case 5:
                return told.toll;
            case 6:
                return told.strict;
            case 7:
                return told.law.lines;
            case 8:
                return told.offers.count;
            case 9:
                return told.lists.count;
            case 10:
                return state.tollsPaid;
            default:
                return NO_SUCH;
        }
    }

    private boolean isAhead(int hour) {
        return hour >= state.now && hour <= LAST_HOUR;
    }

    private boolean isSpan(int from, int until) {
        return from <= until && isAhead(from) && isAhead(until);
    }

    private boolean isWalk(int bridge, int way, int bears) {
        return bridge >= 0 && bridge < told.bridgeCount && (way == 0 || way == 1)
                && bears >= 0 && bears <= MOST_BEARS;
    }

    /** Starts a course in thought from how things are now. */
    private void think() {
        thought.copyFrom(state);
        course.begin(thought);
    }

    /** When one more load, left in an hour, is at another end; NONE if it is not by the hour until. */
    private int arrival(int load, int to, int hour, int until) {
        course.plan.come[hour] |= 1 << load;
        think();
        course.watch(load, to);
        course.goOn(until);
        course.plan.come[hour] &= ~(1 << load);
        return course.met;
    }

    private boolean isEnough(int hired, int set, int end, int hour) {
        think();
        course.hired = hired;
        course.goOn(hour);
        for (int load = 0; load < told.loads.count; load++) {
            boolean asked = (set >> load & 1) == 1;
            if (asked && thought.gone[load] == 0 && thought.end[load] != end) {
                return false;
            }
        }
        return true;
    }

    private boolean goesWithLists(int absent) {
        thought.clear();
        course.begin(thought);
        course.absent = absent;
        int last = told.lists.lastHour();
        for (int hour = 0; hour <= last; hour++) {
            course.goOn(hour);
            if (course.plan.listed[hour] != 0 && !told.lists.agree(hour, thought)) {
                return false;
            }
        }
        return true;
    }

    /** Loads as they are told, by number. */
    private static final class Loads {
        final int[] weight = new int[MOST_LOADS];
        final int[] end = new int[MOST_LOADS];
        final int[] hour = new int[MOST_LOADS];
        final int[] fetchEnd = new int[MOST_LOADS];
        final int[] fetchHour = new int[MOST_LOADS];
        int count;

        int add(int itsWeight, int itsEnd, int itsHour) {
            if (count >= MOST_LOADS) {
                return NONE;
            }
            weight[count] = itsWeight;
            end[count] = itsEnd;
            hour[count] = itsHour;
            fetchEnd[count] = NONE;
            fetchHour[count] = 0;
            count++;
            return count - 1;
        }

        void dropLast() {
            if (count > 0) {
                count--;
            }
        }

        boolean has(int load) {
            return load >= 0 && load < count;
        }

        boolean hasAll(int set) {
            return set >= 0 && set >> count == 0;
        }

        void copyFrom(Loads other) {
            System.arraycopy(other.weight, 0, weight, 0, MOST_LOADS);
            System.arraycopy(other.end, 0, end, 0, MOST_LOADS);
            System.arraycopy(other.hour, 0, hour, 0, MOST_LOADS);
            System.arraycopy(other.fetchEnd, 0, fetchEnd, 0, MOST_LOADS);
            System.arraycopy(other.fetchHour, 0, fetchHour, 0, MOST_LOADS);
            count = other.count;
        }
    }

    /** Crossers as they are told, by number. */
    private static final class Crossers {
        final int[] hour = new int[MOST_CROSSERS];
        final int[] bridge = new int[MOST_CROSSERS];
        final int[] way = new int[MOST_CROSSERS];
        final int[] bears = new int[MOST_CROSSERS];
        final int[] own = new int[MOST_CROSSERS];
        final int[] cost = new int[MOST_CROSSERS];
        final int[] kind = new int[MOST_CROSSERS];
        final int[] v = new int[MOST_CROSSERS];
        final int[] maybe = new int[MOST_CROSSERS];
        int count;

        int add(int itsHour, int itsBridge, int itsWay, int itsBears, int itsOwn, int itsCost) {
            if (count >= MOST_CROSSERS) {
                return NONE;
            }
            hour[count] = itsHour;
            bridge[count] = itsBridge;
            way[count] = itsWay;
            bears[count] = itsBears;
            own[count] = itsOwn;
            cost[count] = itsCost;
            kind[count] = PLAIN;
            v[count] = 0;
            maybe[count] = 0;
            count++;
            return count - 1;
        }

        boolean has(int crosser) {
            return crosser >= 0 && crosser < count;
        }

        boolean canFollow(int crosser, int leader) {
            return has(crosser) && has(leader) && crosser != leader
                    && bridge[crosser] == bridge[leader] && way[crosser] == way[leader];
        }

        void tellKind(int crosser, int itsKind, int itsV) {
            if (has(crosser)) {
                kind[crosser] = itsKind;
                v[crosser] = itsV;
            }
        }

        int maybeSet() {
            int found = 0;
            for (int i = 0; i < count; i++) {
                found |= maybe[i] << i;
            }
            return found;
        }

        int tell(int i, int what) {
            if (!has(i)) {
                return NO_SUCH;
            }
            switch (what) {
                case 0:
                    return hour[i];
                case 1:
                    return bridge[i];
                case 2:
                    return way[i];
                case 3:
                    return bears[i];
                case 4:
                    return own[i];
                case 5:
                    return cost[i];
                case 6:
                    return kind[i];
                case 7:
                    return v[i];
                case 11:
                    return maybe[i];
                default:
                    return NO_SUCH;
            }
        }

        void copyFrom(Crossers other) {
            System.arraycopy(other.hour, 0, hour, 0, MOST_CROSSERS);
            System.arraycopy(other.bridge, 0, bridge, 0, MOST_CROSSERS);
            System.arraycopy(other.way, 0, way, 0, MOST_CROSSERS);
            System.arraycopy(other.bears, 0, bears, 0, MOST_CROSSERS);
            System.arraycopy(other.own, 0, own, 0, MOST_CROSSERS);
            System.arraycopy(other.cost, 0, cost, 0, MOST_CROSSERS);
            System.arraycopy(other.kind, 0, kind, 0, MOST_CROSSERS);
            System.arraycopy(other.v, 0, v, 0, MOST_CROSSERS);
            System.arraycopy(other.maybe, 0, maybe, 0, MOST_CROSSERS);
            count = other.count;
        }
    }

    /** Offers of crossers for hire, by number. */
    private static final class Offers {
        final int[] hour = new int[MOST_OFFERS];
        final int[] bridge = new int[MOST_OFFERS];
        final int[] way = new int[MOST_OFFERS];
        final int[] bears = new int[MOST_OFFERS];
        final int[] price = new int[MOST_OFFERS];
        int count;

        int add(int itsHour, int itsBridge, int itsWay, int itsBears, int itsPrice) {
            if (count >= MOST_OFFERS) {
                return NONE;
            }
            hour[count] = itsHour;
            bridge[count] = itsBridge;
            way[count] = itsWay;
            bears[count] = itsBears;
            price[count] = itsPrice;
            count++;
            return count - 1;
        }

        int priceOf(int hired) {
            int sum = 0;
            for (int i = 0; i < count; i++) {
                sum += (hired >> i & 1) * price[i];
            }
            return sum;
        }

        void copyFrom(Offers other) {
            System.arraycopy(other.hour, 0, hour, 0, MOST_OFFERS);
            System.arraycopy(other.bridge, 0, bridge, 0, MOST_OFFERS);
            System.arraycopy(other.way, 0, way, 0, MOST_OFFERS);
            System.arraycopy(other.bears, 0, bears, 0, MOST_OFFERS);
            System.arraycopy(other.price, 0, price, 0, MOST_OFFERS);
            count = other.count;
        }
    }

    /** Lists of what was seen at an end behind an hour. */
    private static final class Lists {
        final int[] hour = new int[MOST_LISTS];
        final int[] end = new int[MOST_LISTS];
        final int[] seen = new int[MOST_LISTS];
        int count;

        boolean add(int itsHour, int itsEnd, int itsSet) {
            if (count >= MOST_LISTS) {
                return false;
            }
            hour[count] = itsHour;
            end[count] = itsEnd;
            seen[count] = itsSet;
            count++;
            return true;
        }

        int lastHour() {
            int last = NONE;
            for (int i = 0; i < count; i++) {
                last = Math.max(last, hour[i]);
            }
            return last;
        }

        boolean agree(int anHour, State state) {
            for (int i = 0; i < count; i++) {
                if (hour[i] == anHour && state.setAt(end[i]) != seen[i]) {
                    return false;
                }
            }
            return true;
        }

        void copyFrom(Lists other) {
            System.arraycopy(other.hour, 0, hour, 0, MOST_LISTS);
            System.arraycopy(other.end, 0, end, 0, MOST_LISTS);
            System.arraycopy(other.seen, 0, seen, 0, MOST_LISTS);
            count = other.count;
        }
    }

    /** The lines of a law, each with the code of its condition: operands first, then what joins them. */
    private static final class Law {
        final int[] code = new int[MOST_BYTES];
        final int[] start = new int[MOST_LAW_LINES + 1];
        final int[] take = new int[MOST_LAW_LINES];
        final int[] stack = new int[STACK];
        int lines;
        int size;

        void clear() {
            lines = 0;
            size = 0;
            start[0] = 0;
        }

        boolean beginLine(boolean takes) {
            if (lines >= MOST_LAW_LINES) {
                return false;
            }
            take[lines] = takes ? 1 : 0;
            return true;
        }

        void closeLine() {
            if (lines < MOST_LAW_LINES) {
                lines++;
                start[lines] = size;
            }
        }

        void put(int c) {
            if (size < MOST_BYTES) {
                code[size] = c;
                size++;
            }
        }

        boolean lets(int[] facts) {
            for (int line = 0; line < lines; line++) {
                if (holds(line, facts)) {
                    return take[line] == 1;
                }
            }
            return true;
        }

        private boolean holds(int line, int[] facts) {
            int top = 0;
            for (int i = start[line]; i < start[line + 1]; i++) {
                int c = code[i];
                int fact = -c - T_WEIGHT;
                if (c >= 0 || fact >= 0 && fact < FACTS) {
                    if (top < STACK) {
                        stack[top] = c >= 0 ? c : facts[fact];
                        top++;
                    }
                } else if (c == -T_NOT) {
                    if (top > 0) {
                        stack[top - 1] = 1 - stack[top - 1];
                    }
                } else if (top > 1) {
                    top--;
                    int right = stack[top];
                    int left = stack[top - 1];
                    switch (-c) {
                        case T_PLUS:
                            left += right;
                            break;
                        case T_MINUS:
                            left -= right;
                            break;
                        case T_TIMES:
                            left *= right;
                            break;
                        case T_PART:
                            left = right == 0 ? 0 : left / right;
                            break;
                        case T_LESS:
                            left = left < right ? 1 : 0;
                            break;
                        case T_SAME:
                            left = left == right ? 1 : 0;
                            break;
                        case T_MORE:
                            left = left > right ? 1 : 0;
                            break;
                        case T_AND:
                            left &= right;
                            break;
                        default:
                            left |= right;
                            break;
                    }
                    stack[top - 1] = left;
                }
            }
            return top == 0 || stack[0] != 0;
        }

        void copyFrom(Law other) {
            System.arraycopy(other.code, 0, code, 0, MOST_BYTES);
            System.arraycopy(other.start, 0, start, 0, MOST_LAW_LINES + 1);
            System.arraycopy(other.take, 0, take, 0, MOST_LAW_LINES);
            lines = other.lines;
            size = other.size;
        }
    }

    /** All that was told but what became of it. */
    private static final class Told {
        final Loads loads = new Loads();
        final Crossers crossers = new Crossers();
        final Offers offers = new Offers();
        final Lists lists = new Lists();
        final Law law = new Law();
        int bridgeCount = 1;
        int toll = NONE;
        int strict;

        boolean hasEnd(int end) {
            return end >= 0 && end <= bridgeCount;
        }

        void clear(int bridgesNow) {
            bridgeCount = bridgesNow;
            toll = NONE;
            strict = 0;
            loads.count = 0;
            crossers.count = 0;
            offers.count = 0;
            lists.count = 0;
            law.clear();
        }

        void copyFrom(Told other) {
            bridgeCount = other.bridgeCount;
            toll = other.toll;
            strict = other.strict;
            loads.copyFrom(other.loads);
            crossers.copyFrom(other.crossers);
            offers.copyFrom(other.offers);
            lists.copyFrom(other.lists);
            law.copyFrom(other.law);
        }
    }

    /** What became of loads and crossers up to now. */
    private static final class State {
        final int[] end = new int[MOST_LOADS];
        final int[] since = new int[MOST_LOADS];
        final int[] trips = new int[MOST_LOADS];
        final int[] gone = new int[MOST_LOADS];
        /** The loads at each end in their order, MOST_LOADS places an end. */
        final int[] row = new int[MOST_ENDS * MOST_LOADS];
        final int[] waiting = new int[MOST_ENDS];
        final int[] crossedAt = new int[MOST_CROSSERS];
        final int[] bore = new int[MOST_CROSSERS];
        final int[] paid = new int[MOST_CROSSERS];
        int now;
        int tollsPaid;

        State() {
            clear();
        }

        void clear() {
            Arrays.fill(end, NONE);
            Arrays.fill(since, NONE);
            Arrays.fill(trips, 0);
            Arrays.fill(gone, 0);
            Arrays.fill(waiting, 0);
            Arrays.fill(crossedAt, NONE);
            Arrays.fill(bore, 0);
            Arrays.fill(paid, 0);
            now = 0;
            tollsPaid = 0;
        }

        boolean isAt(int load, int anEnd) {
            return end[load] == anEnd && gone[load] == 0;
        }

        void append(int load, int anEnd, int hour) {
            if (waiting[anEnd] < MOST_LOADS) {
                row[anEnd * MOST_LOADS + waiting[anEnd]] = load;
                waiting[anEnd]++;
            }
            end[load] = anEnd;
            since[load] = hour;
        }

        /** Takes those loads, told in the order in which they wait there, away from an end. */
        void drop(int[] those, int many, int anEnd) {
            int first = anEnd * MOST_LOADS;
            int kept = 0;
            int dropped = 0;
            for (int i = 0; i < waiting[anEnd]; i++) {
                int load = row[first + i];
                if (dropped < many && dropped < those.length && load == those[dropped]) {
                    dropped++;
                } else {
                    row[first + kept] = load;
                    kept++;
                }
            }
            waiting[anEnd] = kept;
        }

        int weightAt(int anEnd, Loads loads) {
            int sum = 0;
            for (int i = 0; i < waiting[anEnd]; i++) {
                sum += loads.weight[row[anEnd * MOST_LOADS + i]];
            }
            return sum;
        }

        int setAt(int anEnd) {
            int found = 0;
            for (int i = 0; i < waiting[anEnd]; i++) {
                found |= 1 << row[anEnd * MOST_LOADS + i];
            }
            return found;
        }

        int bearersSince(int hour, int crossers) {
            int found = 0;
            for (int i = 0; i < crossers && i < MOST_CROSSERS; i++) {
                if (crossedAt[i] >= hour && bore[i] > 0) {
                    found++;
                }
            }
            return found;
        }

        void copyFrom(State other) {
            System.arraycopy(other.end, 0, end, 0, MOST_LOADS);
            System.arraycopy(other.since, 0, since, 0, MOST_LOADS);
            System.arraycopy(other.trips, 0, trips, 0, MOST_LOADS);
            System.arraycopy(other.gone, 0, gone, 0, MOST_LOADS);
            System.arraycopy(other.row, 0, row, 0, MOST_ENDS * MOST_LOADS);
            System.arraycopy(other.waiting, 0, waiting, 0, MOST_ENDS);
            System.arraycopy(other.crossedAt, 0, crossedAt, 0, MOST_CROSSERS);
            System.arraycopy(other.bore, 0, bore, 0, MOST_CROSSERS);
            System.arraycopy(other.paid, 0, paid, 0, MOST_CROSSERS);
            now = other.now;
            tollsPaid = other.tollsPaid;
        }
    }

    /** What was borne, by whom, when. */
    private static final class Book {
        final int[] loads = new int[MOST_BOOK_LINES];
        final int[] crossers = new int[MOST_BOOK_LINES];
        final int[] hours = new int[MOST_BOOK_LINES];
        int lines;

        void write(int load, int crosser, int hour) {
            if (lines < MOST_BOOK_LINES) {
                loads[lines] = load;
                crossers[lines] = crosser;
                hours[lines] = hour;
                lines++;
            }
        }

        void copyFrom(Book other) {
            System.arraycopy(other.loads, 0, loads, 0, MOST_BOOK_LINES);
            System.arraycopy(other.crossers, 0, crossers, 0, MOST_BOOK_LINES);
            System.arraycopy(other.hours, 0, hours, 0, MOST_BOOK_LINES);
            lines = other.lines;
        }
    }

    /** For each hour the sets of those that may do something in it, so that quiet hours cost nothing. */
    private static final class Plan {
        final int[] come = new int[HOURS];
        final int[] fetched = new int[HOURS];
        final int[] walk = new int[HOURS];
        final int[] hire = new int[HOURS];
        final int[] listed = new int[HOURS];

        void make(Told told, int from) {
            Arrays.fill(come, 0);
            Arrays.fill(fetched, 0);
            Arrays.fill(walk, 0);
            Arrays.fill(hire, 0);
            Arrays.fill(listed, 0);
            for (int i = 0; i < told.loads.count; i++) {
                come[told.loads.hour[i]] |= 1 << i;
                if (told.loads.fetchEnd[i] != NONE) {
                    fetched[told.loads.fetchHour[i]] |= 1 << i;
                }
            }
            for (int i = 0; i < told.crossers.count; i++) {
                planCrosser(told.crossers, i, from);
            }
            for (int i = 0; i < told.offers.count; i++) {
                hire[told.offers.hour[i]] |= 1 << i;
            }
            for (int i = 0; i < told.lists.count; i++) {
                listed[told.lists.hour[i]] |= 1 << i;
            }
        }

        private void planCrosser(Crossers crossers, int i, int from) {
            int first = crossers.hour[i];
            if (crossers.kind[i] == PLAIN) {
                walk[first] |= 1 << i;
            }
            if (crossers.kind[i] == WAITS) {
                // Told late to wait he has waited long enough already: he goes in the first hour.
                int last = Math.min(LAST_HOUR, Math.max(first + crossers.v[i], from));
                for (int hour = first; hour <= last; hour++) {
                    walk[hour] |= 1 << i;
                }
            }
        }
    }

    /** Hours going by, for good or in thought. */
    private static final class Course {
        final Told told;
        final Book book;
        final Plan plan = new Plan();
        final int[] picked = new int[MOST_LOADS];
        final int[] facts = new int[FACTS];
        int pickedCount;
        State state;
        boolean written;
        int toll;
        int hired;
        int absent;
        int watched;
        int watchedEnd;
        int met;
        int leastAbove;
        int borne;

        Course(Told told, Book book, State state) {
            this.told = told;
            this.book = book;
            this.state = state;
        }

        void begin(State from) {
            state = from;
            written = false;
            toll = told.toll;
            hired = 0;
            absent = 0;
            watched = NONE;
            watchedEnd = NONE;
            met = NONE;
            leastAbove = NONE;
            borne = 0;
        }

        void watch(int load, int end) {
            watched = load;
            watchedEnd = end;
        }

        /** Lets hours go by up to this one, or up to when the watched load is where it is awaited. */
        void goOn(int until) {
            for (int hour = state.now; hour <= until && hour < HOURS && met == NONE; hour++) {
                pass(hour);
                state.now = hour + 1;
            }
        }

        private void pass(int hour) {
            if (plan.come[hour] != 0) {
                bring(plan.come[hour], hour);
            }
            if (plan.fetched[hour] != 0) {
                fetchOff(plan.fetched[hour]);
            }
            int walkers = plan.walk[hour] & ~absent;
            for (int i = 0; walkers != 0 && i < told.crossers.count; i++) {
                if ((walkers >> i & 1) == 1 && isToGo(i, hour)) {
                    cross(i, hour, 0);
                }
            }
            int helpers = plan.hire[hour] & hired;
            for (int i = 0; helpers != 0 && i < told.offers.count; i++) {
                if ((helpers >> i & 1) == 1) {
                    int from = told.offers.bridge[i] + told.offers.way[i];
                    int to = told.offers.bridge[i] + 1 - told.offers.way[i];
                    choose(from, told.offers.bears[i], 0, hour);
                    carry(from, to, hour, NONE);
                }
            }
        }

        private void bring(int set, int hour) {
            for (int i = 0; i < told.loads.count; i++) {
                if ((set >> i & 1) == 1) {
                    arrive(i, told.loads.end[i], hour);
                }
            }
        }

        private void fetchOff(int set) {
            for (int i = 0; i < told.loads.count; i++) {
                int end = told.loads.fetchEnd[i];
                if ((set >> i & 1) == 1 && told.hasEnd(end) && state.isAt(i, end)) {
                    picked[0] = i;
                    state.drop(picked, 1, end);
                    state.gone[i] = 1;
                }
            }
        }

        private void arrive(int load, int end, int hour) {
            state.append(load, end, hour);
            if (load == watched && end == watchedEnd && met == NONE) {
                met = hour;
            }
        }

        private boolean isToGo(int i, int hour) {
            Crossers all = told.crossers;
            if (state.crossedAt[i] != NONE) {
                return false;
            }
            if (all.kind[i] == PLAIN) {
                return hour == all.hour[i];
            }
            boolean isBare = state.waiting[all.bridge[i] + all.way[i]] == 0;
            return all.kind[i] == WAITS && hour >= all.hour[i] && (isBare || hour >= all.hour[i] + all.v[i]);
        }

        private void cross(int i, int hour, int depth) {
            Crossers all = told.crossers;
            int from = all.bridge[i] + all.way[i];
            int to = all.bridge[i] + 1 - all.way[i];
            int weight = choose(from, all.bears[i] - all.own[i], all.own[i], hour);
            int price = all.cost[i] * weight;
            state.crossedAt[i] = hour;
            if (toll != NONE && price > toll) {
                state.paid[i] = toll;
                state.tollsPaid += toll;
                leastAbove = leastAbove == NONE ? price : Math.min(leastAbove, price);
            } else {
                state.bore[i] = weight;
                carry(from, to, hour, i);
            }
            if (depth < MOST_CROSSERS) {
                for (int next = 0; next < all.count; next++) {
                    if (isBehind(next, i)) {
                        cross(next, hour, depth + 1);
                    }
                }
            }
        }

        private boolean isBehind(int i, int leader) {
            return told.crossers.kind[i] == BEHIND && told.crossers.v[i] == leader
                    && state.crossedAt[i] == NONE && (absent >> i & 1) == 0;
        }

        /** Picks what one who comes to an end would take; answers its weight. */
        int choose(int end, int free, int own, int hour) {
            int room = free;
            int sum = 0;
            pickedCount = 0;
            facts[FACT_HEAP] = state.waiting[end];
            facts[FACT_OWN] = own;
            facts[FACT_HOUR] = hour;
            for (int i = 0; i < state.waiting[end]; i++) {
                int load = state.row[end * MOST_LOADS + i];
                int weight = told.loads.weight[load];
                if (weight > room) {
                    if (told.strict == 1) {
                        break;
                    }
                    continue;
                }
                facts[FACT_WEIGHT] = weight;
                facts[FACT_ROOM] = room;
                facts[FACT_SINCE] = hour - state.since[load];
                facts[FACT_TRIPS] = state.trips[load];
                if (told.law.lets(facts)) {
                    picked[pickedCount] = load;
                    pickedCount++;
                    room -= weight;
                    sum += weight;
                }
            }
            return sum;
        }

        private void carry(int from, int to, int hour, int crosser) {
            state.drop(picked, pickedCount, from);
            for (int i = 0; i < pickedCount; i++) {
                int load = picked[i];
                state.trips[load]++;
                arrive(load, to, hour);
                if (written) {
                    book.write(load, crosser, hour);
                }
            }
            borne += pickedCount;
        }
    }

    /** The tape, and the law that is read from it. */
    private static final class Reader {
        final int[] tape = new int[MOST_BYTES];
        final Law draft = new Law();
        /** Joints and open brackets that still await what stands right of them. */
        final int[] held = new int[STACK];
        int length;
        int failure;
        int failurePlace = NONE;
        int heldCount;
        int open;
        int brackets;
        int awaits;
        boolean isRight;
        int at;
        int token;
        int place;
        int number;

        int take(int a, int b, int c, int d, int e) {
            if (length + 20 > MOST_BYTES) {
                return NONE;
            }
            takeFour(a);
            takeFour(b);
            takeFour(c);
            takeFour(d);
            takeFour(e);
            return length;
        }

        private void takeFour(int word) {
            for (int shift = 24; shift >= 0; shift -= 8) {
                if (length < MOST_BYTES) {
                    tape[length] = word >>> shift & 255;
                    length++;
                }
            }
        }

        boolean cut(int n) {
            if (n < 0 || n > length) {
                return false;
            }
            length = n;
            return true;
        }

        /** Reads the whole tape into the draft, or up to the first fault; the tape is empty then. */
        void readLaw() {
            draft.clear();
            failure = 0;
            failurePlace = NONE;
            at = 0;
            awaits = AT_LINE;
            for (int steps = 0; steps <= MOST_BYTES && awaits != AT_REST; steps++) {
                nextToken();
                step();
            }
            length = 0;
        }

        private void fail(int which) {
            failure = which;
            failurePlace = place;
            awaits = AT_REST;
        }

        private void step() {
            switch (awaits) {
                case AT_LINE:
                    stepLine();
                    break;
                case AT_HEAD:
                    stepHead();
                    break;
                case AT_CONDITION:
                    stepCondition();
                    break;
                case AT_UNIT:
                    stepUnit();
                    break;
                case AT_DIVISOR:
                    stepDivisor();
                    break;
                case BEHIND_LEFT:
                    stepLeft();
                    break;
                case BEHIND_RIGHT:
                    stepRight();
                    break;
                default:
                    stepClosed();
                    break;
            }
        }

        private void stepLine() {
            if (token == T_END) {
                awaits = AT_REST;
            } else if (token != T_TAKE && token != T_LEAVE) {
                fail(FAULT_PLACE);
            } else if (!draft.beginLine(token == T_TAKE)) {
                fail(FAULT_MANY);
            } else {
                heldCount = 0;
                open = 0;
                brackets = 0;
                awaits = AT_HEAD;
            }
        }

        private void stepHead() {
            if (token == T_WHEN) {
                awaits = AT_CONDITION;
            } else if (token == T_STOP) {
                draft.closeLine();
                awaits = AT_LINE;
            } else {
                fail(FAULT_PLACE);
            }
        }

        private void stepCondition() {
            if (token != T_NOT && token != T_OPEN) {
                isRight = false;
                stepUnit();
            } else if (open >= MOST_OPEN) {
                fail(FAULT_MANY);
            } else {
                open++;
                brackets += token == T_OPEN ? 1 : 0;
                hold(token);
            }
        }

        private void stepUnit() {
            if (token == T_NUMBER) {
                draft.put(number);
            } else if (token >= T_WEIGHT && token <= T_TRIPS) {
                draft.put(-token);
            } else {
                fail(FAULT_PLACE);
                return;
            }
            awaits = isRight ? BEHIND_RIGHT : BEHIND_LEFT;
        }

        private void stepDivisor() {
            if (token == T_NUMBER && number == 0) {
                fail(FAULT_ZERO);
            } else if (token == T_NUMBER) {
                stepUnit();
            } else {
                fail(FAULT_PLACE);
            }
        }

        private void stepLeft() {
            if (token >= T_LESS && token <= T_MORE) {
                join();
                isRight = true;
                awaits = AT_UNIT;
            } else if (token >= T_PLUS && token <= T_PART) {
                stepReckoning();
            } else {
                fail(FAULT_PLACE);
            }
        }

        private void stepRight() {
            if (token >= T_PLUS && token <= T_PART) {
                stepReckoning();
            } else {
                stepClosed();
            }
        }

        private void stepReckoning() {
            join();
            awaits = token == T_PART ? AT_DIVISOR : AT_UNIT;
        }

        private void stepClosed() {
            if (token == T_AND || token == T_OR) {
                join();
                awaits = AT_CONDITION;
            } else if (token == T_CLOSE && brackets > 0) {
                release(rank(T_OR));
                heldCount -= heldCount > 0 ? 1 : 0;
                brackets--;
                open--;
                awaits = BEHIND_CLOSE;
            } else if (token == T_STOP && brackets == 0) {
                release(rank(T_OR));
                draft.closeLine();
                awaits = AT_LINE;
            } else {
                fail(FAULT_PLACE);
            }
        }

        private void join() {
            release(rank(token));
            hold(token);
        }

        private void hold(int sign) {
            if (heldCount < STACK) {
                held[heldCount] = sign;
                heldCount++;
            }
        }

        /** Puts out all held joints that bind at least so hard, back to the innermost open bracket. */
        private void release(int least) {
            while (heldCount > 0 && rank(held[heldCount - 1]) >= least) {
                heldCount--;
                open -= held[heldCount] == T_NOT ? 1 : 0;
                draft.put(-held[heldCount]);
            }
        }

        private static int rank(int sign) {
            switch (sign) {
                case T_OR:
                    return 1;
                case T_AND:
                    return 2;
                case T_NOT:
                    return 3;
                case T_LESS:
                case T_SAME:
                case T_MORE:
                    return 4;
                case T_PLUS:
                case T_MINUS:
                    return 5;
                case T_TIMES:
                case T_PART:
                    return 6;
                default:
                    return 0;
            }
        }

        private void nextToken() {
            while (at < length && (tape[at] == ' ' || tape[at] == '\n')) {
                at++;
            }
            place = at;
            if (at >= length) {
                token = T_END;
            } else if (isLetter(tape[at])) {
                while (at < length && isLetter(tape[at])) {
                    at++;
                }
                token = keyword();
            } else if (isDigit(tape[at])) {
                number = 0;
                while (at < length && isDigit(tape[at])) {
                    number = number * 10 + tape[at] - '0';
                    at++;
                }
                token = at - place <= 4 ? T_NUMBER : T_BAD;
            } else {
                token = sign(tape[at]);
                at++;
            }
        }

        private static boolean isLetter(int c) {
            return c >= 'a' && c <= 'z' || c >= 'A' && c <= 'Z';
        }

        private static boolean isDigit(int c) {
            return c >= '0' && c <= '9';
        }

        private static int sign(int c) {
            switch (c) {
                case ';':
                    return T_STOP;
                case '+':
                    return T_PLUS;
                case '-':
                    return T_MINUS;
                case '*':
                    return T_TIMES;
                case '/':
                    return T_PART;
                case '(':
                    return T_OPEN;
                case ')':
                    return T_CLOSE;
                case '<':
                    return T_LESS;
                case '=':
                    return T_SAME;
                case '>':
                    return T_MORE;
                default:
                    return T_BAD;
            }
        }

        private int keyword() {
            for (int word = T_TAKE; word <= T_TRIPS; word++) {
                if (isSpelt(spelling(word))) {
                    return word;
                }
            }
            return T_BAD;
        }

        private boolean isSpelt(String word) {
            if (word.length() != at - place) {
                return false;
            }
            for (int i = 0; i < word.length(); i++) {
                if (tape[place + i] != word.charAt(i)) {
                    return false;
                }
            }
            return true;
        }

        private static String spelling(int word) {
            switch (word) {
                case T_TAKE:
                    return "take";
                case T_LEAVE:
                    return "leave";
                case T_WHEN:
                    return "when";
                case T_OR:
                    return "or";
                case T_AND:
                    return "and";
                case T_NOT:
                    return "not";
                case T_WEIGHT + FACT_WEIGHT:
                    return "weight";
                case T_WEIGHT + FACT_ROOM:
                    return "room";
                case T_WEIGHT + FACT_SINCE:
                    return "since";
                case T_WEIGHT + FACT_HEAP:
                    return "heap";
                case T_WEIGHT + FACT_OWN:
                    return "own";
                case T_WEIGHT + FACT_HOUR:
                    return "hour";
                case T_WEIGHT + FACT_TRIPS:
                    return "trips";
                default:
                    return "";
            }
        }
    }
}
