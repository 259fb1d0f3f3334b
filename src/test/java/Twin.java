import java.util.Arrays;

/**
 * Objects told alike. A call that must leave all as it was is made on one of them alone; then all that can be
 * seen of that one is compared with what is seen of the other. What is seen comes in parts, each of them asked
 * of an object of its own, so that none is used for more than the document's 512 calls.
 */
final class Twin {
    interface Recipe {
        TakeOver make();
    }

    interface Call {
        long on(TakeOver x);
    }

    interface Tell {
        long on(TakeOver x, int v);
    }

    interface Shown {
        long on(TakeOver x);
    }

    static final int PARTS = 8;
    private static final int MIN = Integer.MIN_VALUE;
    private static final int MAX = Integer.MAX_VALUE;

    final String name;
    private final Recipe recipe;
    private final long[][] seen = new long[PARTS][];

    Twin(String name, Recipe recipe) {
        this.name = name;
        this.recipe = recipe;
    }

    TakeOver make() {
        return recipe.make();
    }

    /** The call answers this, and behind it all is as it is without it. */
    void keeps(String label, long due, Call call) {
        for (int part = 0; part < PARTS; part++) {
            TakeOver x = make();
            Due.is(label + " [" + name + "]", call.on(x), due);
            same(label, part, see(x, part));
        }
    }

    /** All of this object is as of one made by the recipe; made anew for each part. */
    void isLike(String label, Recipe other) {
        for (int part = 0; part < PARTS; part++) {
            same(label, part, see(other.make(), part));
        }
    }

    /** Whether something of what that recipe makes is otherwise: so that a comparison is known to see it. */
    void differs(String label, Recipe other) {
        boolean found = false;
        for (int part = 0; part < PARTS && !found; part++) {
            found = !Arrays.equals(mine(part), see(other.make(), part));
        }
        Due.yes(label + " is seen [" + name + "]", found);
    }

    /**
     * Asks with both bounds and with what stands one inside of them: taken, and shown then as it was told;
     * and with what stands one outside of them and far away: refused, and all is as it was.
     */
    void bounds(String label, int low, int high, long refused, Tell tell, Shown shown) {
        refuses(label, refused, tell, low - 1, high + 1, MIN, MAX);
        for (int v : new int[] {low, low + 1, high - 1, high}) {
            if (v < low || v > high) {
                continue;
            }
            TakeOver x = make();
            Due.yes(label + " " + v + " is taken [" + name + "]", tell.on(x, v) != refused);
            if (shown != null) {
                Due.is(label + " " + v + " is shown [" + name + "]", shown.on(x), v);
            }
        }
    }

    void refuses(String label, long refused, Tell tell, int... values) {
        for (int v : values) {
            keeps(label + " " + v, refused, x -> tell.on(x, v));
        }
    }

    private void same(String label, int part, long[] got) {
        long[] due = mine(part);
        Due.is(label + ": answers of part " + part + " [" + name + "]", got.length, due.length);
        for (int i = 0; i < Math.min(got.length, due.length); i++) {
            if (got[i] != due[i]) {
                Due.is(label + ": answer " + i + " of part " + part + " [" + name + "]", got[i], due[i]);
            }
        }
    }

    private long[] mine(int part) {
        if (seen[part] == null) {
            seen[part] = see(make(), part);
        }
        return seen[part];
    }

    /** A row of answers that grows. */
    private static final class Row {
        private long[] answers = new long[512];
        private int count;

        void put(long answer) {
            answers[count++] = answer;
        }

        long[] all() {
            return Arrays.copyOf(answers, count);
        }
    }

    static long[] see(TakeOver x, int part) {
        Row row = new Row();
        switch (part) {
            case 0 -> loads(x, row);
            case 1 -> crossers(x, row);
            case 2 -> endsAndBook(x, row);
            case 3 -> thoughtsOfLoads(x, row);
            case 4 -> thoughtsOfOthers(x, row);
            case 5 -> tapeAndLaw(x, row);
            case 6 -> image(x, row);
            default -> hoursToCome(x, row);
        }
        return row.all();
    }

    private static void looks(TakeOver x, Row row) {
        for (int what = 0; what <= 10; what++) {
            row.put(x.look(what));
        }
        row.put(x.fault(0));
        row.put(x.fault(1));
    }

    private static void loads(TakeOver x, Row row) {
        looks(x, row);
        for (int load = 0; load < 30; load++) {
            for (int what = 0; what <= 5; what++) {
                row.put(x.of(load, what));
            }
        }
    }

    private static void crossers(TakeOver x, Row row) {
        for (int crosser = 0; crosser < 20; crosser++) {
            for (int what = 0; what <= 11; what++) {
                row.put(x.who(crosser, what));
            }
        }
    }

    private static void endsAndBook(TakeOver x, Row row) {
        for (int end = 0; end <= 3; end++) {
            for (int i = 0; i < 30; i++) {
                row.put(x.waits(end, i));
            }
        }
        for (int i = 0; i < 300; i += i < 30 ? 1 : 9) {
            for (int what = 0; what <= 2; what++) {
                row.put(x.book(i, what));
            }
        }
    }

    private static void thoughtsOfLoads(TakeOver x, Row row) {
        int ends = x.look(0);
        for (int load = 0; load < x.look(2); load++) {
            row.put(x.back(load));
            for (int end = 0; end <= ends; end++) {
                row.put(x.over(load, end));
            }
        }
        for (int end = 0; end <= ends; end++) {
            for (int hour = x.look(1); hour <= 167; hour += hour < 20 ? 1 : 25) {
                row.put(x.gathers(end, hour, 1));
            }
        }
    }

    private static void thoughtsOfOthers(TakeOver x, Row row) {
        int now = x.look(1);
        int bridges = x.look(0);
        for (int bridge = 0; bridge < bridges; bridge++) {
            for (int what = 0; what <= 1; what++) {
                row.put(x.best(bridge, 0, 99, now, 167, what));
                row.put(x.best(bridge, 1, 50, now, 60, what));
                row.put(x.send(5, bridge, bridge + 1, now, 60, what));
                row.put(x.send(1, bridge + 1, bridge, now, 60, what));
            }
        }
        int all = (1 << x.look(2)) - 1;
        for (int end = 0; end <= bridges; end++) {
            for (int load = 0; load < 6; load++) {
                row.put(x.fewest(all & 1 << load, end, 8 + 8 * load, 0));
            }
            row.put(x.fewest(all & 33, end, 60, 0));
            row.put(x.fewest(all & 33, end, 60, 1));
        }
        for (int k = 1; k <= 20; k += k < 5 ? 1 : 5) {
            row.put(x.right(k));
        }
        for (int what = 0; what <= 2; what++) {
            row.put(x.night(what));
        }
    }

    /** How long the tape is, what it holds, and what becomes of it as a law. */
    private static void tapeAndLaw(TakeOver x, Row row) {
        int length = 400;
        while (length > 380 && !x.end(length)) {
            length--;
        }
        row.put(length);
        row.put(x.feed(0x20202020, 0x20202020, 0x20202020, 0x20202020, 0x20202020));
        for (int end = 0; end <= x.look(0); end++) {
            row.put(x.gathers(end, 167, 1));
        }
        row.put(x.text());
        looks(x, row);
        for (int end = 0; end <= x.look(0); end++) {
            row.put(x.gathers(end, 167, 1));
        }
    }

    private static void image(TakeOver x, Row row) {
        row.put(x.image(false) ? 1 : 0);
        looks(x, row);
        for (int load = 0; load < 30; load++) {
            row.put(x.of(load, 0));
            row.put(x.of(load, 1));
        }
        for (int crosser = 0; crosser < 20; crosser++) {
            row.put(x.who(crosser, 0));
            row.put(x.who(crosser, 3));
            row.put(x.who(crosser, 6));
        }
        row.put(x.hours(40));
        looks(x, row);
        row.put(x.image(false) ? 1 : 0);
        looks(x, row);
    }

    private static void hoursToCome(TakeOver x, Row row) {
        for (int hour = x.look(1); hour <= 167; hour++) {
            row.put(x.hours(1));
        }
        looks(x, row);
        for (int load = 0; load < 30; load++) {
            row.put(x.of(load, 1));
            row.put(x.of(load, 5));
        }
    }

    static Twin fresh() {
        return new Twin("a new one", TakeOver::new);
    }

    static Twin middle() {
        return new Twin("in the midst", Twin::makeMiddle);
    }

    static Twin full() {
        return new Twin("a full one", Twin::makeFull);
    }

    static Twin late() {
        return new Twin("behind all hours", Twin::makeLate);
    }

    static Twin[] all() {
        return new Twin[] {fresh(), middle(), full(), late()};
    }

    /** What an object keeps when bridges are told anew: an image, a fault, a tape. */
    static void keptByBridges(TakeOver x) {
        x.bridges(3);
        x.load(9, 3, 1);
        x.crosser(2, 2, 1, 19, 0, 0);
        x.image(true);
        x.bridges(2);
    }

    static void faultAndTape(TakeOver x) {
        Due.law(x, "take  when");
        Due.tape(x, "leave when weight<7;take");
        x.end(20);
    }

    /**
     * Two bridges, hour 5. Loads: 0 was borne forth and back, 1 forth, 2 is kept by the law, 3 is to be fetched,
     * 4 and 5 are still to come. Crossers: 0 and 1 bore something, 6 paid, 2 waits, 3 goes behind 2, 4 and 5 are
     * maybe there, 7 is plain.
     */
    static TakeOver makeMiddle() {
        TakeOver x = new TakeOver();
        keptByBridges(x);
        Due.law(x, "leave when weight=13;");
        int[][] loads = {{5, 0, 0}, {7, 0, 1}, {13, 1, 2}, {4, 2, 3}, {20, 0, 6}, {6, 1, 30}};
        for (int[] l : loads) {
            x.load(l[0], l[1], l[2]);
        }
        x.fetch(3, 2, 8);
        x.fetch(4, 1, 20);
        int[][] crossers = {{1, 0, 0, 30, 2, 1}, {2, 0, 1, 9, 0, 3}, {10, 0, 0, 40, 0, 1}, {50, 0, 0, 8, 0, 0},
            {12, 1, 0, 25, 1, 0}, {9, 1, 1, 30, 0, 9}, {4, 0, 0, 99, 0, 9}, {60, 1, 0, 99, 0, 0}};
        for (int[] c : crossers) {
            x.crosser(c[0], c[1], c[2], c[3], c[4], c[5]);
        }
        x.kind(2, 1, 4);
        x.kind(3, 2, 2);
        x.set(0, 0, 30);
        x.set(1, 0, 1);
        x.set(2, 4, 1);
        x.set(2, 5, 1);
        x.offer(7, 0, 0, 30, 5);
        x.offer(8, 1, 0, 60, 9);
        x.offer(30, 1, 1, 10, 0);
        x.list(0, 0, 1);
        x.list(12, 1, 4 + 2);
        x.hours(5);
        faultAndTape(x);
        return x;
    }

    /** As many as can be of all, hour 3; eight are maybe there. */
    static TakeOver makeFull() {
        TakeOver x = new TakeOver();
        x.bridges(3);
        Due.law(x, "take when weight<4;".repeat(15) + "leave when weight=5;");
        for (int i = 0; i < 30; i++) {
            x.load(1 + i % 7, i % 4, i < 20 ? i / 10 : i);
        }
        for (int i = 0; i < 20; i++) {
            x.crosser(1 + i * 2, i % 3, i / 3 % 2, 40, i, i % 3);
            x.list(0, 3, 1 << 3 | 1 << 7);
        }
        for (int i = 0; i < 8; i++) {
            x.set(2, 2 * i + 3, 1);
            x.offer(20 + 4 * i, i % 3, 0, 99, 100 + i);
        }
        x.fetch(29, 1, 40);
        x.hours(3);
        Due.tape(x, "take;leave when " + "1=2 or ".repeat(54) + "3=3 ;;");
        return x;
    }

    static TakeOver makeLate() {
        TakeOver x = makeMiddle();
        x.hours(163);
        return x;
    }
}
