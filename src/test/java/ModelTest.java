import java.util.Random;

/** Plays drawn runs of calls on the class and on the model, and compares every answer. */
public final class ModelTest {
    private static final String[] WORDS = {"weight", "room", "since", "heap", "own", "hour", "trips"};
    private static final String[] SPOILS = {"take", "when", "or", "and", "not ", "(", ")", ";", "<", "/0", "/", "*",
        "12345", "7", "xy", "$", "room", " ", "\n", "not not not ", "((("};

    /** What the document promises of one object. */
    private static final int MOST_CALLS = 512;
    /** Behind so many no more is told, so that the rest is left for looking at all. */
    private static final int MOST_PLAYED = 400;

    private final Random draw;
    private final TakeOver x = new TakeOver();
    private final Model m = new Model();
    private final int hourSpan;
    private final int weightSpan;
    private final int bearSpan;
    /** In some runs few cross by themselves, so that who is hired or maybe there tells. */
    private final boolean isShy;
    private final String run;
    private int calls;

    private ModelTest(int seed) {
        draw = new Random(seed * 7919L + 13);
        hourSpan = 5 + draw.nextInt(40);
        weightSpan = 1 + draw.nextInt(draw.nextInt(4) == 0 ? 99 : 25);
        bearSpan = 5 + draw.nextInt(draw.nextInt(4) == 0 ? 94 : 40);
        isShy = seldom(3);
        run = "run " + seed + " ";
    }

    public static void main(String[] args) {
        int runs = args.length > 0 ? Integer.parseInt(args[0]) : 250;
        int first = args.length > 1 ? Integer.parseInt(args[1]) : 0;
        for (int seed = first; seed < first + runs; seed++) {
            new ModelTest(seed).play();
            new ModelTest(seed + 1000000).ponder();
        }
        allChances();
        Due.end();
    }

    private static void allChances() {
        Model m = new Model();
        for (int p = -1; p <= 11; p++) {
            TakeOver x = new TakeOver();
            for (int q = -1; q <= 11; q++) {
                for (int n = 0; n <= 4; n++) {
                    Due.is("chance " + p + " " + q + " " + n, x.chance(p, q, n, 0), m.chance(p, q, n, 0));
                    Due.is("chance " + p + " " + q + " " + n, x.chance(p, q, n, 1), m.chance(p, q, n, 1));
                }
            }
        }
        Due.is("chance 8 hours", new TakeOver().chance(7, 3, 8, 0), m.chance(7, 3, 8, 0));
    }

    /** Compares the answer to one call with the model's; past what is promised none may be asked. */
    private void is(String call, long got, long want) {
        calls++;
        Due.yes(run + "is past its " + MOST_CALLS + " calls", calls <= MOST_CALLS);
        Due.is(run + call, got, want);
    }

    private int upTo(int most) {
        return draw.nextInt(most + 1);
    }

    private boolean seldom(int of) {
        return draw.nextInt(of) == 0;
    }

    private int hour() {
        int hour = m.world.now + draw.nextInt(hourSpan);
        return seldom(25) ? upTo(200) - 10 : hour;
    }

    private int end() {
        return seldom(25) ? upTo(6) - 2 : upTo(m.world.bridges);
    }

    private int bridge() {
        return seldom(25) ? upTo(6) - 2 : draw.nextInt(m.world.bridges);
    }

    private int way() {
        return seldom(40) ? upTo(4) - 2 : upTo(1);
    }

    private int bears() {
        return seldom(40) ? upTo(110) - 5 : upTo(bearSpan);
    }

    private int weight() {
        return seldom(40) ? upTo(110) - 5 : 1 + draw.nextInt(weightSpan);
    }

    private int aLoad() {
        return seldom(25) ? upTo(34) - 2 : draw.nextInt(Math.max(1, m.world.loads.size()));
    }

    private int aCrosser() {
        return seldom(25) ? upTo(24) - 2 : draw.nextInt(Math.max(1, m.world.walkers.size()));
    }

    private int what(int most) {
        return seldom(25) ? upTo(most + 6) - 3 : upTo(most);
    }

    private int loadSet() {
        if (!seldom(3) && m.world.loads.size() > 0) {
            return 1 << draw.nextInt(m.world.loads.size()) | (seldom(2) ? 1 << draw.nextInt(m.world.loads.size()) : 0);
        }
        int all = (1 << m.world.loads.size()) - 1;
        int drawn = draw.nextInt() & (seldom(2) ? draw.nextInt() & draw.nextInt() : draw.nextInt());
        return seldom(25) ? drawn : drawn & all;
    }

    private void play() {
        if (!seldom(4)) {
            int n = 1 + draw.nextInt(3);
            is("bridges", x.bridges(n) ? 1 : 0, m.bridges(n) ? 1 : 0);
        }
        if (!seldom(3)) {
            law();
        }
        int tells = draw.nextInt(60);
        for (int i = 0; i < tells; i++) {
            tell();
        }
        while (calls < MOST_PLAYED) {
            int kind = draw.nextInt(20);
            if (kind < 4) {
                tell();
            } else if (kind < 6) {
                pass();
            } else if (kind < 9) {
                think();
            } else if (kind == 9) {
                seldomDone();
            } else {
                see();
            }
        }
        while (calls < MOST_CALLS) {
            lookAnywhere();
        }
    }

    /** A small world with many who may help, asked again and again as hours go by. */
    private void ponder() {
        int n = 1 + draw.nextInt(2);
        is("bridges", x.bridges(n) ? 1 : 0, m.bridges(n) ? 1 : 0);
        if (seldom(4)) {
            law();
        }
        smallWorld();
        for (int i = 0; i < 12; i++) {
            int now = m.world.now;
            int until = Math.min(167, now + draw.nextInt(30));
            int end = upTo(n);
            int to = upTo(n);
            int w = upTo(1);
            int set = loadSet();
            is("fewest", x.fewest(set, end, until, w), m.fewest(set, end, until, w));
            int weight = weight();
            is("send", x.send(weight, end, to, now, until, w), m.send(weight, end, to, now, until, w));
            int a = aLoad();
            is("over", x.over(a, to), m.over(a, to));
            night();
            if (seldom(6)) {
                int k = 1 + upTo(4);
                is("right(" + k + ")", x.right(k), m.right(k));
            }
            if (seldom(3)) {
                pass();
            }
        }
    }

    private void smallWorld() {
        int bridges = m.world.bridges;
        for (int i = 0; i < 6; i++) {
            int a = weight();
            int b = upTo(bridges);
            int c = upTo(6);
            is("load", x.load(a, b, c), m.load(a, b, c));
        }
        int crossers = 3 + upTo(7);
        for (int i = 0; i < crossers; i++) {
            int a = upTo(30);
            int b = draw.nextInt(bridges);
            int c = upTo(1);
            int d = bears();
            int f = upTo(9);
            is("crosser", x.crosser(a, b, c, d, 0, f), m.crosser(a, b, c, d, 0, f));
            int maybe = upTo(1);
            is("set", x.set(2, i, maybe) ? 1 : 0, m.set(2, i, maybe) ? 1 : 0);
            kind();
        }
        for (int i = 0; i < 8; i++) {
            int a = upTo(30);
            int b = draw.nextInt(bridges);
            int c = upTo(1);
            int d = bears();
            int e = upTo(5);
            is("offer", x.offer(a, b, c, d, e), m.offer(a, b, c, d, e));
        }
    }

    private void tell() {
        int kind = draw.nextInt(12);
        if (isShy && kind > 4 && kind < 7) {
            kind += 5;
        }
        if (kind < 4) {
            int a = weight();
            int b = end();
            int c = hour();
            is("load", x.load(a, b, c), m.load(a, b, c));
        } else if (kind < 7) {
            int a = hour();
            int b = bridge();
            int c = way();
            int d = bears();
            int e = seldom(2) ? 0 : upTo(Math.max(0, d) + (seldom(20) ? 2 : 0)) / (seldom(2) ? 1 : 4);
            int f = seldom(40) ? upTo(14) - 2 : upTo(9);
            is("crosser", x.crosser(a, b, c, d, e, f), m.crosser(a, b, c, d, e, f));
        } else if (kind == 7) {
            int a = aLoad();
            int b = seldom(6) ? -1 : end();
            int c = hour();
            is("fetch", x.fetch(a, b, c) ? 1 : 0, m.fetch(a, b, c) ? 1 : 0);
        } else if (kind < 10) {
            kind();
        } else if (kind == 10) {
            int a = hour();
            int b = bridge();
            int c = way();
            int d = bears();
            int e = seldom(3) ? upTo(1010) - 5 : upTo(4);
            is("offer", x.offer(a, b, c, d, e), m.offer(a, b, c, d, e));
        } else {
            int a = seldom(2) ? 2 : what(2);
            int b = aCrosser();
            int c = a == 0 ? (seldom(4) ? -1 : upTo(seldom(10) ? 1005 : 150) - 2) : seldom(25) ? upTo(5) - 2 : upTo(1);
            is("set", x.set(a, b, c) ? 1 : 0, m.set(a, b, c) ? 1 : 0);
        }
    }

    private void kind() {
        int a = aCrosser();
        int b = what(2);
        int c = b == 1 ? upTo(seldom(10) ? 30 : 8) - (seldom(20) ? 3 : 0) : aCrosser();
        is("kind", x.kind(a, b, c) ? 1 : 0, m.kind(a, b, c) ? 1 : 0);
    }

    private void pass() {
        int n = seldom(30) ? upTo(200) - 20 : upTo(4);
        is("hours", x.hours(n), m.hours(n));
        is("look(10)", x.look(10), m.look(10));
    }

    private void think() {
        int from = hour();
        int until = Math.min(from + draw.nextInt(25), seldom(9) ? 170 : 167);
        int w = what(1);
        switch (draw.nextInt(12)) {
            case 0, 1 -> {
                int a = aLoad();
                int b = end();
                is("over", x.over(a, b), m.over(a, b));
            }
            case 2 -> {
                int a = aLoad();
                is("back", x.back(a), m.back(a));
            }
            case 3, 4 -> {
                int a = end();
                is("gathers", x.gathers(a, from, w), m.gathers(a, from, w));
            }
            case 5, 6 -> {
                int a = bridge();
                int b = way();
                int c = bears();
                is("best", x.best(a, b, c, from, until, w), m.best(a, b, c, from, until, w));
            }
            case 7, 8 -> {
                int a = weight();
                int b = end();
                int c = end();
                is("send", x.send(a, b, c, from, until, w), m.send(a, b, c, from, until, w));
            }
            case 9, 10 -> {
                int a = loadSet();
                int b = end();
                int c = seldom(2) ? from : until;
                is("fewest", x.fewest(a, b, c, w), m.fewest(a, b, c, w));
            }
            default -> night();
        }
    }

    /** Lists that are so, mostly, so that some sets go with them. */
    private void night() {
        int end = end();
        int hour = hour();
        int set = loadSet();
        if (!seldom(4) && m.isEnd(end) && m.ahead(hour)) {
            set = m.world.copy().playedUntil(hour).at(end).stream().mapToInt(l -> 1 << l.number).sum();
        }
        if (!seldom(3)) {
            is("list", x.list(hour, end, set) ? 1 : 0, m.list(hour, end, set) ? 1 : 0);
        }
        for (int what = 0; what < 3; what++) {
            is("night(" + what + ")", x.night(what), m.night(what));
        }
    }

    private void seldomDone() {
        switch (draw.nextInt(8)) {
            case 0 -> {
                int k = seldom(9) ? upTo(25) - 2 : 1 + upTo(5);
                is("right(" + k + ")", x.right(k), m.right(k));
            }
            case 1, 2 -> law();
            case 3, 4, 5 -> {
                boolean taken = draw.nextBoolean();
                is("image", x.image(taken) ? 1 : 0, m.image(taken) ? 1 : 0);
            }
            case 6 -> {
                int n = seldom(3) ? 1 + upTo(2) : upTo(6) - 7;
                is("bridges", x.bridges(n) ? 1 : 0, m.bridges(n) ? 1 : 0);
            }
            default -> {
                int[] f = {draw.nextInt(), draw.nextInt(), draw.nextInt(), draw.nextInt(), draw.nextInt()};
                is("feed", x.feed(f[0], f[1], f[2], f[3], f[4]), m.feed(f));
                int n = upTo(40) - 3;
                is("end", x.end(n) ? 1 : 0, m.end(n) ? 1 : 0);
            }
        }
    }

    private void see() {
        int a = aLoad();
        int c = aCrosser();
        int e = end();
        int i = upTo(9) - 1;
        int w = what(5);
        is("of(" + a + ", " + w + ")", x.of(a, w), m.of(a, w));
        w = what(11);
        is("who(" + c + ", " + w + ")", x.who(c, w), m.who(c, w));
        is("waits(" + e + ", " + i + ")", x.waits(e, i), m.waits(e, i));
        i = upTo(30) - 1;
        w = what(2);
        is("book(" + i + ", " + w + ")", x.book(i, w), m.book(i, w));
        w = what(10);
        is("look(" + w + ")", x.look(w), m.look(w));
        is("fault(" + w + ")", x.fault(w), m.fault(w));
    }

    private void lookAnywhere() {
        int w = upTo(13) - 1;
        int i = upTo(31) - 1;
        switch (draw.nextInt(5)) {
            case 0 -> is("of(" + i + ", " + w + ")", x.of(i, w), m.of(i, w));
            case 1 -> is("who(" + i + ", " + w + ")", x.who(i, w), m.who(i, w));
            case 2 -> is("waits(" + w + ", " + i + ")", x.waits(w, i), m.waits(w, i));
            case 3 -> {
                int line = upTo(m.world.book.size() + 1) - 1;
                is("book(" + line + ", " + w + ")", x.book(line, w), m.book(line, w));
            }
            default -> is("look(" + w + ")", x.look(w), m.look(w));
        }
    }

    private void law() {
        StringBuilder b = new StringBuilder();
        int lines = seldom(20) ? 14 + upTo(4) : upTo(4);
        for (int i = 0; i < lines; i++) {
            b.append(seldom(2) ? "take" : "leave");
            if (!seldom(5)) {
                b.append(" when ").append(condition(lines > 9 ? 0 : 3));
            }
            b.append(";");
        }
        for (int spoil = seldom(2) ? 1 + upTo(2) : 0; spoil > 0; spoil--) {
            spoil(b);
        }
        String text = b.length() > 400 ? b.substring(0, 400) : b.toString();
        while (m.tape.length() > 0) {
            is("end(0)", x.end(0) ? 1 : 0, m.end(0) ? 1 : 0);
        }
        for (int i = 0; i < text.length(); i += 20) {
            int[] f = new int[5];
            for (int k = 0; k < 20; k++) {
                f[k / 4] = f[k / 4] << 8 | (i + k < text.length() ? text.charAt(i + k) : 32);
            }
            is("feed", x.feed(f[0], f[1], f[2], f[3], f[4]), m.feed(f));
        }
        is("end", x.end(text.length()) ? 1 : 0, m.end(text.length()) ? 1 : 0);
        is("text of " + text, x.text(), m.text());
        is("fault(0) of " + text, x.fault(0), m.fault(0));
        is("fault(1) of " + text, x.fault(1), m.fault(1));
    }

    private void spoil(StringBuilder b) {
        int at = upTo(b.length());
        if (seldom(3) && at < b.length()) {
            b.deleteCharAt(at);
        } else if (seldom(4)) {
            b.setLength(at);
        } else {
            b.insert(at, SPOILS[draw.nextInt(SPOILS.length)]);
        }
    }

    private String condition(int depth) {
        int kind = draw.nextInt(depth > 0 ? 8 : 3);
        if (kind < 3) {
            return sum() + (seldom(3) ? "=" : seldom(2) ? "<" : ">") + sum();
        }
        if (kind == 3) {
            return "not " + condition(depth - 1);
        }
        if (kind == 4) {
            return "(" + condition(depth - 1) + ")";
        }
        return condition(depth - 1) + (kind < 7 ? " and " : "\nor ") + condition(depth - 1);
    }

    private String sum() {
        StringBuilder b = new StringBuilder(unit());
        for (int i = seldom(2) ? upTo(2) : 0; i > 0; i--) {
            switch (draw.nextInt(4)) {
                case 0 -> b.append("+").append(unit());
                case 1 -> b.append(" - ").append(unit());
                case 2 -> b.append("*").append(unit());
                default -> b.append("/").append(seldom(30) ? 0 : 1 + upTo(8));
            }
        }
        return b.toString();
    }

    private String unit() {
        return seldom(2) ? WORDS[draw.nextInt(7)] : String.valueOf(upTo(seldom(9) ? 9999 : 25));
    }
}
