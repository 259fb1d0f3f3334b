import java.util.ArrayList;
import java.util.Comparator;
import java.util.List;

/**
 * The document written a second time, as plainly as can be and in another way than the class: every thought
 * is a whole new world that is played hour by hour, every choice is tried one by one.
 */
final class Model {
    static final class Load implements Cloneable {
        int number;
        int weight;
        int leftAt;
        int leftHour;
        int fetchAt = -1;
        int fetchHour = -1;
        int end = -1;
        int since = -1;
        int trips;
        boolean gone;
        long stamp;

        Load copy() {
            try {
                return (Load) clone();
            } catch (CloneNotSupportedException e) {
                throw new IllegalStateException(e);
            }
        }
    }

    static final class Walker implements Cloneable {
        int number;
        int hour;
        int bridge;
        int way;
        int bears;
        int own;
        int cost;
        int kind;
        int v;
        boolean maybe;
        int crossed = -1;
        int bore;
        int paid;
        boolean away;

        Walker copy() {
            try {
                return (Walker) clone();
            } catch (CloneNotSupportedException e) {
                throw new IllegalStateException(e);
            }
        }

        int from() {
            return way == 0 ? bridge : bridge + 1;
        }

        int to() {
            return way == 0 ? bridge + 1 : bridge;
        }
    }

    record Offer(int hour, int bridge, int way, int bears, int price) {
    }

    record Seen(int hour, int end, int set) {
    }

    record Line(int load, int crosser, int hour) {
    }

    /** All that is and was told but the tape and the fault. */
    static final class World {
        int bridges = 1;
        int now;
        int toll = -1;
        boolean strict;
        int tolls;
        long stamps;
        String law = "";
        List<Load> loads = new ArrayList<>();
        List<Walker> walkers = new ArrayList<>();
        List<Offer> offers = new ArrayList<>();
        List<Seen> lists = new ArrayList<>();
        List<Line> book = new ArrayList<>();
        /** Extra walkers who come last in their hour. */
        List<Walker> last = new ArrayList<>();
        int borne;
        int firstThere = -1;
        int watchLoad = -1;
        int watchEnd = -1;

        World copy() {
            World w = new World();
            w.bridges = bridges;
            w.now = now;
            w.toll = toll;
            w.strict = strict;
            w.tolls = tolls;
            w.stamps = stamps;
            w.law = law;
            for (Load l : loads) {
                w.loads.add(l.copy());
            }
            for (Walker c : walkers) {
                w.walkers.add(c.copy());
            }
            w.offers.addAll(offers);
            w.lists.addAll(lists);
            w.book.addAll(book);
            return w;
        }

        List<Load> at(int end) {
            List<Load> found = new ArrayList<>();
            for (Load l : loads) {
                if (l.end == end && !l.gone) {
                    found.add(l);
                }
            }
            found.sort(Comparator.comparingLong(l -> l.stamp));
            return found;
        }

        void comes(Load l, int end) {
            l.end = end;
            l.since = now;
            l.stamp = stamps++;
            if (l.number == watchLoad && end == watchEnd && firstThere < 0) {
                firstThere = now;
            }
        }

        void hour() {
            for (Load l : loads) {
                if (l.leftHour == now) {
                    comes(l, l.leftAt);
                }
            }
            for (Load l : loads) {
                if (l.fetchAt >= 0 && l.fetchHour == now && l.end == l.fetchAt) {
                    l.gone = true;
                }
            }
            for (Walker c : walkers) {
                if (c.crossed >= 0 || c.away) {
                    continue;
                }
                boolean plain = c.kind == 0 && c.hour == now;
                boolean waited = c.kind == 1 && now >= c.hour && (at(c.from()).isEmpty() || now - c.hour >= c.v);
                if (plain || waited) {
                    cross(c);
                }
            }
            for (Walker c : last) {
                if (c.hour == now) {
                    cross(c);
                }
            }
            now++;
        }

        void cross(Walker c) {
            List<Load> there = at(c.from());
            List<Load> taken = new ArrayList<>();
            int room = c.bears - c.own;
            for (Load l : there) {
                if (l.weight > room) {
                    if (strict) {
                        break;
                    }
                } else if (new Text(law).takes(l.weight, room, now - l.since, there.size(), c.own, now, l.trips)) {
                    taken.add(l);
                    room -= l.weight;
                }
            }
            int sum = c.bears - c.own - room;
            c.crossed = now;
            if (toll >= 0 && c.cost * sum > toll) {
                c.paid = toll;
                tolls += toll;
            } else {
                c.bore = sum;
                for (Load l : taken) {
                    l.trips++;
                    comes(l, c.to());
                    borne++;
                    if (book.size() < 300) {
                        book.add(new Line(l.number, c.number, now));
                    }
                }
            }
            if (c.number >= 0) {
                for (Walker d : walkers) {
                    if (d.kind == 2 && d.v == c.number && d.crossed < 0 && !d.away) {
                        cross(d);
                    }
                }
            }
        }

        World playedUntil(int hour) {
            while (now <= hour && now < 168) {
                hour();
            }
            return this;
        }

        World atFirst() {
            World w = copy();
            w.now = 0;
            w.stamps = 0;
            for (Load l : w.loads) {
                l.end = -1;
                l.since = -1;
                l.trips = 0;
                l.gone = false;
            }
            for (Walker c : w.walkers) {
                c.crossed = -1;
                c.bore = 0;
                c.paid = 0;
            }
            return w;
        }
    }

    /** A law read by going down its grammar, and judged while it is read. */
    static final class Text {
        static final List<String> WORDS = List.of("weight", "room", "since", "heap", "own", "hour", "trips");
        static final List<String> KEYS = List.of("take", "leave", "when", "or", "and", "not");
        final String text;
        int at;
        int place;
        String token;
        int open;
        int fault;
        int faultPlace = -1;
        int lines;
        int[] facts = new int[7];

        static final class Bad extends RuntimeException {
            private static final long serialVersionUID = 1L;
        }

        Text(String text) {
            this.text = text;
        }

        Bad bad(int which) {
            fault = which;
            faultPlace = place;
            return new Bad();
        }

        /** How many lines, -1 with a fault. */
        int check() {
            try {
                run();
                return lines;
            } catch (Bad e) {
                return -1;
            }
        }

        boolean takes(int... values) {
            facts = values;
            return run() != 0;
        }

        int run() {
            at = 0;
            int answer = -1;
            next();
            while (!token.isEmpty()) {
                if (!token.equals("take") && !token.equals("leave")) {
                    throw bad(1);
                }
                if (lines == 16) {
                    throw bad(3);
                }
                boolean take = token.equals("take");
                boolean so = true;
                next();
                if (token.equals("when")) {
                    next();
                    so = any();
                }
                if (!token.equals(";")) {
                    throw bad(1);
                }
                next();
                lines++;
                if (so && answer < 0) {
                    answer = take ? 1 : 0;
                }
            }
            return answer;
        }

        boolean any() {
            boolean so = all();
            while (token.equals("or")) {
                next();
                so |= all();
            }
            return so;
        }

        boolean all() {
            boolean so = one();
            while (token.equals("and")) {
                next();
                so &= one();
            }
            return so;
        }

        boolean one() {
            boolean so;
            if (token.equals("not") || token.equals("(")) {
                if (open == 8) {
                    throw bad(3);
                }
                boolean not = token.equals("not");
                open++;
                next();
                if (not) {
                    so = !one();
                } else {
                    so = any();
                    if (!token.equals(")")) {
                        throw bad(1);
                    }
                    next();
                }
                open--;
                return so;
            }
            int left = sum();
            String sign = token;
            if (!sign.equals("<") && !sign.equals("=") && !sign.equals(">")) {
                throw bad(1);
            }
            next();
            int right = sum();
            return sign.equals("<") ? left < right : sign.equals("=") ? left == right : left > right;
        }

        int sum() {
            int value = product();
            while (token.equals("+") || token.equals("-")) {
                boolean plus = token.equals("+");
                next();
                int other = product();
                value = plus ? value + other : value - other;
            }
            return value;
        }

        int product() {
            int value = unit();
            while (token.equals("*") || token.equals("/")) {
                boolean times = token.equals("*");
                next();
                if (times) {
                    value *= unit();
                } else {
                    if (!isNumber()) {
                        throw bad(1);
                    }
                    int by = Integer.parseInt(token);
                    if (by == 0) {
                        throw bad(2);
                    }
                    value /= by;
                    next();
                }
            }
            return value;
        }

        int unit() {
            int value;
            if (isNumber()) {
                value = Integer.parseInt(token);
            } else if (WORDS.contains(token)) {
                value = facts[WORDS.indexOf(token)];
            } else {
                throw bad(1);
            }
            next();
            return value;
        }

        boolean isNumber() {
            return token.matches("[0-9]{1,4}");
        }

        void next() {
            while (at < text.length() && (text.charAt(at) == 32 || text.charAt(at) == 10)) {
                at++;
            }
            place = at;
            String rest = text.substring(at);
            if (rest.isEmpty()) {
                token = "";
                return;
            }
            String run = rest.replaceFirst("(?s)^([a-zA-Z]+|[0-9]+|.).*", "$1");
            at += run.length();
            boolean known = WORDS.contains(run) || KEYS.contains(run) || run.matches("[0-9]{1,4}")
                    || run.matches("[-;+*/()<=>]");
            token = known ? run : "?";
        }
    }

    World world = new World();
    World old;
    String tape = "";
    int fault;
    int faultPlace = -1;

    boolean ahead(int hour) {
        return hour >= world.now && hour < 168;
    }

    boolean isEnd(int end) {
        return end >= 0 && end <= world.bridges;
    }

    boolean walk(int bridge, int way, int bears) {
        return bridge >= 0 && bridge < world.bridges && way >= 0 && way <= 1 && bears >= 0 && bears <= 99;
    }

    Load load(int i) {
        return i >= 0 && i < world.loads.size() ? world.loads.get(i) : null;
    }

    Walker walker(int i) {
        return i >= 0 && i < world.walkers.size() ? world.walkers.get(i) : null;
    }

    boolean bridges(int n) {
        if (n < 1 || n > 3) {
            return false;
        }
        world = new World();
        world.bridges = n;
        return true;
    }

    int load(int weight, int end, int hour) {
        if (weight < 1 || weight > 99 || !isEnd(end) || !ahead(hour) || world.loads.size() == 30) {
            return -1;
        }
        Load l = new Load();
        l.number = world.loads.size();
        l.weight = weight;
        l.leftAt = end;
        l.leftHour = hour;
        world.loads.add(l);
        return l.number;
    }

    boolean fetch(int load, int end, int hour) {
        Load l = load(load);
        if (l == null || end != -1 && (!isEnd(end) || !ahead(hour))) {
            return false;
        }
        l.fetchAt = end;
        l.fetchHour = hour;
        return true;
    }

    int crosser(int hour, int bridge, int way, int bears, int own, int cost) {
        if (!ahead(hour) || !walk(bridge, way, bears) || own < 0 || own > bears || cost < 0 || cost > 9
                || world.walkers.size() == 20) {
            return -1;
        }
        Walker c = new Walker();
        c.number = world.walkers.size();
        c.hour = hour;
        c.bridge = bridge;
        c.way = way;
        c.bears = bears;
        c.own = own;
        c.cost = cost;
        world.walkers.add(c);
        return c.number;
    }

    boolean kind(int crosser, int kind, int v) {
        Walker c = walker(crosser);
        if (c == null || c.crossed >= 0 || kind < 0 || kind > 2) {
            return false;
        }
        if (kind == 1 && (v < 0 || v > 24)) {
            return false;
        }
        if (kind == 2) {
            Walker d = walker(v);
            if (d == null || d == c || d.bridge != c.bridge || d.way != c.way) {
                return false;
            }
        }
        c.kind = kind;
        c.v = kind == 0 ? 0 : v;
        return true;
    }

    boolean set(int what, int i, int v) {
        if (what == 0 && v >= -1 && v <= 999) {
            world.toll = v;
            return true;
        }
        if (what == 1 && (v == 0 || v == 1)) {
            world.strict = v == 1;
            return true;
        }
        if (what == 2 && (v == 0 || v == 1) && walker(i) != null) {
            walker(i).maybe = v == 1;
            return true;
        }
        return false;
    }

    int feed(int... five) {
        if (tape.length() > 380) {
            return -1;
        }
        StringBuilder b = new StringBuilder(tape);
        for (int word : five) {
            for (byte x : java.nio.ByteBuffer.allocate(4).putInt(word).array()) {
                b.append((char) (x & 255));
            }
        }
        tape = b.toString();
        return tape.length();
    }

    boolean end(int n) {
        if (n < 0 || n > tape.length()) {
            return false;
        }
        tape = tape.substring(0, n);
        return true;
    }

    int text() {
        Text t = new Text(tape);
        int lines = t.check();
        fault = t.fault;
        faultPlace = t.faultPlace;
        if (lines >= 0) {
            world.law = tape;
        }
        tape = "";
        return lines;
    }

    int fault(int what) {
        return what == 0 ? fault : what == 1 ? faultPlace : -1;
    }

    int hours(int n) {
        if (n < 1 || n > 168 || world.now + n > 168) {
            return -1;
        }
        world.borne = 0;
        world.playedUntil(world.now + n - 1);
        return world.borne;
    }

    int of(int load, int what) {
        Load l = load(load);
        if (l == null || what < 0 || what > 5) {
            return -2;
        }
        return new int[] {l.weight, l.end, l.since, l.trips, l.leftHour, l.gone ? 1 : 0}[what];
    }

    int who(int crosser, int what) {
        Walker c = walker(crosser);
        if (c == null || what < 0 || what > 11) {
            return -2;
        }
        return new int[] {c.hour, c.bridge, c.way, c.bears, c.own, c.cost, c.kind, c.v, c.crossed, c.bore, c.paid,
            c.maybe ? 1 : 0}[what];
    }

    int waits(int end, int i) {
        List<Load> there = isEnd(end) ? world.at(end) : List.of();
        return i >= 0 && i < there.size() ? there.get(i).number : -1;
    }

    int book(int i, int what) {
        if (i < 0 || i >= world.book.size() || what < 0 || what > 2) {
            return -1;
        }
        Line line = world.book.get(i);
        return new int[] {line.load, line.crosser, line.hour}[what];
    }

    int over(int load, int end) {
        if (load(load) == null || !isEnd(end)) {
            return -1;
        }
        if (load(load).end == end && !load(load).gone) {
            return world.now;
        }
        World w = world.copy();
        w.watchLoad = load;
        w.watchEnd = end;
        return w.playedUntil(167).firstThere;
    }

    int back(int load) {
        return load(load) == null ? -1 : world.copy().playedUntil(167).loads.get(load).trips;
    }

    int gathers(int end, int hour, int what) {
        if (!isEnd(end) || !ahead(hour) || what < 0 || what > 1) {
            return -1;
        }
        List<Load> there = world.copy().playedUntil(hour).at(end);
        return what == 0 ? there.size() : there.stream().mapToInt(l -> l.weight).sum();
    }

    Walker hired(int hour, int bridge, int way, int bears) {
        Walker c = new Walker();
        c.number = -1;
        c.hour = hour;
        c.bridge = bridge;
        c.way = way;
        c.bears = bears;
        return c;
    }

    int best(int bridge, int way, int bears, int from, int until, int what) {
        if (!walk(bridge, way, bears) || !ahead(from) || !ahead(until) || from > until || what < 0 || what > 1) {
            return -1;
        }
        int hour = -1;
        int least = -1;
        for (int h = until; h >= from; h--) {
            World w = world.copy();
            Walker c = hired(h, bridge, way, bears);
            w.last.add(c);
            w.playedUntil(h);
            if (least < 0 || c.bore <= least) {
                least = c.bore;
                hour = h;
            }
        }
        return what == 0 ? hour : least;
    }

    int send(int weight, int end, int to, int from, int until, int what) {
        if (weight < 1 || weight > 99 || !isEnd(end) || !isEnd(to) || end == to || !ahead(from) || !ahead(until)
                || from > until || what < 0 || what > 1 || world.loads.size() == 30) {
            return -1;
        }
        int hour = -1;
        int soonest = -1;
        for (int h = until; h >= from; h--) {
            World w = world.copy();
            Load l = new Load();
            l.number = w.loads.size();
            l.weight = weight;
            l.leftAt = end;
            l.leftHour = h;
            w.loads.add(l);
            w.watchLoad = l.number;
            w.watchEnd = to;
            int there = w.playedUntil(167).firstThere;
            if (there >= 0 && (soonest < 0 || there < soonest)) {
                soonest = there;
                hour = h;
            }
        }
        return what == 0 ? hour : soonest;
    }

    int offer(int hour, int bridge, int way, int bears, int price) {
        if (!ahead(hour) || !walk(bridge, way, bears) || price < 0 || price > 999 || world.offers.size() == 8) {
            return -1;
        }
        world.offers.add(new Offer(hour, bridge, way, bears, price));
        return world.offers.size() - 1;
    }

    int fewest(int set, int end, int hour, int what) {
        if (set < 1 || set >= 1L << world.loads.size() || !isEnd(end) || !ahead(hour) || what < 0 || what > 1) {
            return -1;
        }
        List<int[]> choices = new ArrayList<>();
        for (int s = 0; s < 1 << world.offers.size(); s++) {
            int price = 0;
            for (int i = 0; i < world.offers.size(); i++) {
                price += (s & 1 << i) != 0 ? world.offers.get(i).price : 0;
            }
            choices.add(new int[] {Integer.bitCount(s), price, s});
        }
        choices.sort(Comparator.<int[]>comparingInt(c -> c[0]).thenComparingInt(c -> c[1]).thenComparingInt(c -> c[2]));
        for (int[] c : choices) {
            World w = world.copy();
            for (int i = 0; i < world.offers.size(); i++) {
                if ((c[2] & 1 << i) != 0) {
                    Offer o = world.offers.get(i);
                    w.last.add(hired(o.hour, o.bridge, o.way, o.bears));
                }
            }
            w.playedUntil(hour);
            if (w.loads.stream().allMatch(l -> (set & 1 << l.number) == 0 || l.gone || l.end == end)) {
                return what == 0 ? c[2] : c[1];
            }
        }
        return -1;
    }

    int right(int k) {
        if (k < 1 || k > 20) {
            return -1;
        }
        for (int toll = 0; toll <= 300; toll++) {
            World w = world.copy();
            w.toll = toll;
            w.playedUntil(167);
            if (w.walkers.stream().filter(c -> c.bore > 0 && c.crossed >= world.now).count() >= k) {
                return toll;
            }
        }
        return -1;
    }

    boolean list(int hour, int end, int set) {
        if (hour < 0 || hour > 167 || !isEnd(end) || set < 0 || set >= 1L << world.loads.size()
                || world.lists.size() == 20) {
            return false;
        }
        world.lists.add(new Seen(hour, end, set));
        return true;
    }

    int night(int what) {
        List<Walker> maybe = world.walkers.stream().filter(c -> c.maybe).toList();
        if (maybe.size() > 8 || what < 0 || what > 2) {
            return -1;
        }
        List<Integer> fitting = new ArrayList<>();
        for (int s = 0; s < 1 << maybe.size(); s++) {
            World w = world.atFirst();
            int set = 0;
            for (int i = 0; i < maybe.size(); i++) {
                if ((s & 1 << i) != 0) {
                    set += 1 << maybe.get(i).number;
                } else {
                    w.walkers.get(maybe.get(i).number).away = true;
                }
            }
            boolean fits = true;
            for (int h = 0; h < 168 && fits; h++) {
                w.playedUntil(h);
                for (Seen seen : world.lists) {
                    fits &= seen.hour != h || w.at(seen.end).stream().mapToInt(l -> 1 << l.number).sum() == seen.set;
                }
            }
            if (fits) {
                fitting.add(set);
            }
        }
        if (what == 0) {
            return fitting.size();
        }
        if (what == 1) {
            return fitting.stream().reduce((a, b) -> a & b).orElse(0);
        }
        return fitting.stream().min(Comparator.naturalOrder()).orElse(-1);
    }

    /** By all ways in which it may go: the sum over each one's weight, of 10 to the 2 n. */
    long chance(int p, int q, int n, int what) {
        if (p < 0 || p > 10 || q < 0 || q > 10 || n < 1 || n > 8 || what < 0 || what > 1) {
            return -1;
        }
        if (what == 0) {
            return ways(p, q, n, false).longValueExact();
        }
        int best = 1;
        for (int h = 2; h <= n; h++) {
            java.math.BigInteger a = ways(p, q, h, false).multiply(java.math.BigInteger.valueOf(100).pow(best));
            java.math.BigInteger b = ways(p, q, best, false).multiply(java.math.BigInteger.valueOf(100).pow(h));
            best = a.compareTo(b) > 0 ? h : best;
        }
        return best;
    }

    private java.math.BigInteger ways(int p, int q, int hours, boolean over) {
        if (hours == 0) {
            return over ? java.math.BigInteger.ONE : java.math.BigInteger.ZERO;
        }
        java.math.BigInteger sum = java.math.BigInteger.ZERO;
        for (int forth = 0; forth < 2; forth++) {
            for (int back = 0; back < 2; back++) {
                int weight = (forth == 1 ? p : 10 - p) * (back == 1 ? q : 10 - q);
                boolean then = (over || forth == 1) && back == 0;
                sum = sum.add(ways(p, q, hours - 1, then).multiply(java.math.BigInteger.valueOf(weight)));
            }
        }
        return sum;
    }

    boolean image(boolean taken) {
        if (taken) {
            old = world.copy();
        } else if (old != null) {
            world = old.copy();
        }
        return old != null;
    }

    int look(int what) {
        if (what < 0 || what > 10) {
            return -2;
        }
        Text t = new Text(world.law);
        t.check();
        return new int[] {world.bridges, world.now, world.loads.size(), world.walkers.size(), world.book.size(),
            world.toll, world.strict ? 1 : 0, t.lines, world.offers.size(), world.lists.size(), world.tolls}[what];
    }
}
