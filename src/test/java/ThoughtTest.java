/** Promises 17 to 21, 23, 24, 26 to 28: what is found in thought, and the image. */
public final class ThoughtTest {
    private static final int PARTS = 12;

    public static void main(String[] args) {
        over();
        back();
        gathers();
        best();
        bestIsLastOfAll();
        send();
        sendIsLate();
        fewest();
        fewestOfAlike();
        right();
        rightIsNotSteady();
        night();
        nightAsToldNow();
        tooManyMaybe();
        chance();
        image();
        imageOfAll();
        nothingStays();
        hoursBehindThoughts();
        Due.end();
    }

    private static void over() {
        TakeOver x = new TakeOver();
        x.bridges(2);
        x.load(5, 0, 2);
        x.load(6, 1, 0);
        x.crosser(4, 0, 0, 9, 0, 0);
        x.crosser(4, 1, 0, 9, 0, 0);
        x.fetch(1, 1, 3);
        Due.is("17: left", x.over(0, 0), 2);
        Due.is("17: set down, taken on in the same hour", x.over(0, 1), 4);
        Due.is("17: set down", x.over(0, 2), 4);
        Due.is("17: it does not come there", x.over(1, 2), -1);
        Due.is("17: it is left there", x.over(1, 1), 0);
        Due.is("17: no load", x.over(2, 0), -1);
        Due.is("17: no load", x.over(-1, 0), -1);
        Due.is("17: no end", x.over(0, 3), -1);
        Due.is("17: no end", x.over(0, -1), -1);
        x.hours(3);
        Due.is("17: now", x.over(0, 0), 3);
        Due.is("17: now", x.over(1, 1), 3);
        x.hours(1);
        Due.is("17: gone", x.over(1, 1), -1);
        x.hours(1);
        Due.is("17: it was there, not any more", x.over(0, 0), -1);
        x.hours(163);
        Due.is("17: behind all hours", x.over(0, 2), 168);
        Due.is("17: behind all hours", x.over(0, 0), -1);
        x.bridges(1);
        x.load(1, 0, 6);
        x.fetch(0, 0, 6);
        Due.is("17: left and fetched in the same hour", x.over(0, 0), 6);
    }

    private static void back() {
        TakeOver x = new TakeOver();
        x.load(5, 0, 0);
        for (int i = 0; i < 6; i++) {
            x.crosser(i * 2, 0, i % 2, 5, 0, 0);
        }
        Due.is("18: back(0)", x.back(0), 6);
        x.hours(5);
        Due.is("18: those that were count", x.back(0), 6);
        x.fetch(0, 1, 9);
        Due.is("18: till it is fetched", x.back(0), 5);
        x.fetch(0, 1, 8);
        Due.is("18: it is not there yet, ahead of the crossers", x.back(0), 6);
        x.hours(163);
        Due.is("18: behind all hours", x.back(0), 6);
        Due.is("18: none such", x.back(1), -1);
        Due.is("18: none such", x.back(-1), -1);
    }

    private static void gathers() {
        TakeOver x = new TakeOver();
        x.load(5, 0, 0);
        x.load(6, 0, 1);
        x.load(7, 1, 1);
        x.crosser(1, 0, 0, 9, 0, 0);
        x.fetch(2, 1, 3);
        Due.is("19: gathers(0, 0, 0)", x.gathers(0, 0, 0), 1);
        Due.is("19: gathers(0, 0, 1)", x.gathers(0, 0, 1), 5);
        Due.is("19: gathers(0, 1, 1)", x.gathers(0, 1, 1), 6);
        Due.is("19: gathers(1, 1, 1)", x.gathers(1, 1, 1), 12);
        Due.is("19: gathers(1, 1, 0)", x.gathers(1, 1, 0), 2);
        Due.is("19: without what is gone", x.gathers(1, 3, 0), 1);
        Due.is("19: gathers(1, 167, 1)", x.gathers(1, 167, 1), 5);
        Due.is("19: no end", x.gathers(2, 3, 0), -1);
        Due.is("19: no end", x.gathers(-1, 3, 0), -1);
        Due.is("19: no hour", x.gathers(0, 168, 0), -1);
        Due.is("19: no hour", x.gathers(0, -1, 0), -1);
        Due.is("19: another what", x.gathers(0, 3, 2), -1);
        Due.is("19: another what", x.gathers(0, 3, -1), -1);
        x.hours(2);
        Due.is("19: an hour that went by", x.gathers(0, 1, 0), -1);
        Due.is("19: now", x.gathers(0, 2, 0), 1);
    }

    private static void best() {
        TakeOver x = new TakeOver();
        x.load(5, 0, 0);
        x.load(6, 0, 2);
        x.load(90, 0, 2);
        x.crosser(3, 0, 0, 9, 0, 0);
        x.fetch(1, 0, 5);
        Due.is("20: first of several", x.best(0, 0, 20, 0, 1, 0), 0);
        Due.is("20: weight", x.best(0, 0, 20, 0, 1, 1), 5);
        Due.is("20: least", x.best(0, 0, 20, 1, 4, 0), 1);
        Due.is("20: the crosser took one", x.best(0, 0, 20, 2, 4, 0), 3);
        Due.is("20: the crosser took one", x.best(0, 0, 20, 2, 4, 1), 6);
        Due.is("20: fetched off", x.best(0, 0, 20, 2, 167, 0), 5);
        Due.is("20: fetched off", x.best(0, 0, 20, 2, 167, 1), 0);
        Due.is("20: of one hour", x.best(0, 0, 20, 2, 2, 1), 11);
        Due.is("20: bears 0", x.best(0, 0, 0, 2, 2, 1), 0);
        Due.is("20: the other way", x.best(0, 1, 99, 3, 3, 1), 5);
        int[][] bad = {{-1, 0, 9, 0, 9, 0}, {1, 0, 9, 0, 9, 0}, {0, 2, 9, 0, 9, 0}, {0, -1, 9, 0, 9, 0},
            {0, 0, 100, 0, 9, 0}, {0, 0, -1, 0, 9, 0}, {0, 0, 9, -1, 9, 0}, {0, 0, 9, 0, 168, 0},
            {0, 0, 9, 6, 5, 0}, {0, 0, 9, 0, 9, 2}, {0, 0, 9, 0, 9, -1}};
        for (int[] b : bad) {
            Due.is("20: best(" + java.util.Arrays.toString(b) + ")",
                    x.best(b[0], b[1], b[2], b[3], b[4], b[5]), -1);
        }
        x.hours(3);
        Due.is("20: from below now", x.best(0, 0, 9, 2, 9, 0), -1);
        Due.is("20: from now", x.best(0, 0, 9, 3, 9, 0), 5);
        while (x.look(3) < 20) {
            x.crosser(99, 0, 0, 0, 0, 0);
        }
        Due.is("20: beside twenty", x.best(0, 0, 9, 3, 9, 0), 5);
        x.set(0, 0, 0);
        x.set(1, 0, 1);
        Due.is("20: he pays no toll", x.best(0, 0, 9, 3, 4, 1), 6);
        Due.law(x, "leave when own=0 and heap=2 and hour=4;");
        Due.is("20: by the law", x.best(0, 0, 9, 3, 4, 0), 4);
        Due.is("20: by the law", x.best(0, 0, 9, 3, 4, 1), 0);
    }

    private static void bestIsLastOfAll() {
        TakeOver x = new TakeOver();
        x.load(5, 0, 0);
        x.load(6, 0, 0);
        x.crosser(1, 0, 0, 5, 0, 0);
        x.crosser(9, 0, 0, 9, 0, 0);
        x.kind(1, 2, 0);
        Due.is("20: behind those behind, too", x.best(0, 0, 99, 1, 1, 1), 0);
        Due.is("20: the hour before", x.best(0, 0, 99, 0, 0, 1), 11);
        Due.is("20: what they set down", x.best(0, 1, 99, 1, 1, 1), 11);
    }

    private static void send() {
        TakeOver x = new TakeOver();
        x.bridges(2);
        x.crosser(3, 0, 0, 10, 0, 0);
        x.crosser(6, 1, 0, 10, 0, 0);
        x.crosser(8, 0, 0, 10, 0, 0);
        x.load(9, 0, 2);
        Due.is("21: ahead of the other", x.send(9, 0, 1, 0, 9, 1), 3);
        Due.is("21: the last of several", x.send(9, 0, 1, 0, 9, 0), 1);
        Due.is("21: from 2 it is later", x.send(9, 0, 1, 2, 9, 1), 8);
        Due.is("21: the last of several", x.send(9, 0, 1, 2, 9, 0), 8);
        Due.is("21: there is room for it", x.send(1, 0, 1, 2, 9, 0), 3);
        Due.is("21: two bridges", x.send(9, 0, 2, 0, 9, 1), 6);
        Due.is("21: two bridges", x.send(9, 0, 2, 0, 9, 0), 1);
        Due.is("21: from the second", x.send(1, 1, 2, 0, 167, 0), 6);
        Due.is("21: never", x.send(9, 1, 0, 0, 167, 0), -1);
        Due.is("21: never", x.send(9, 1, 0, 0, 167, 1), -1);
        Due.is("21: too heavy", x.send(11, 0, 1, 0, 167, 1), -1);
        Due.is("21: until", x.send(9, 0, 1, 0, 0, 0), 0);
        x.offer(9, 0, 0, 99, 1);
        x.crosser(10, 0, 0, 99, 0, 0);
        Due.is("21: as heavy as can be", x.send(99, 0, 1, 0, 10, 0), 10);
        int[][] bad = {{0, 0, 1, 0, 9, 0}, {100, 0, 1, 0, 9, 0}, {9, -1, 1, 0, 9, 0}, {9, 3, 1, 0, 9, 0},
            {9, 0, 3, 0, 9, 0}, {9, 0, -1, 0, 9, 0}, {9, 0, 0, 0, 9, 0}, {9, 0, 1, -1, 9, 0},
            {9, 0, 1, 0, 168, 0}, {9, 0, 1, 5, 4, 0}, {9, 0, 1, 0, 9, 2}, {9, 0, 1, 0, 9, -1}};
        for (int[] b : bad) {
            Due.is("21: send(" + java.util.Arrays.toString(b) + ")",
                    x.send(b[0], b[1], b[2], b[3], b[4], b[5]), -1);
        }
        Due.is("21: nothing of it stays", x.look(2), 1);
        x.hours(2);
        Due.is("21: from below now", x.send(1, 0, 1, 1, 9, 0), -1);
        while (x.look(2) < 29) {
            x.load(99, 2, 100);
        }
        Due.is("21: the thirtieth", x.send(1, 0, 1, 2, 9, 0), 3);
        x.load(99, 2, 100);
        Due.is("21: thirty loads", x.send(1, 0, 1, 2, 9, 0), -1);
        Due.is("21: the loads stay", x.back(29), 0);
    }

    /** Left later a load may be there sooner than one left before. */
    private static void sendIsLate() {
        TakeOver x = new TakeOver();
        Due.law(x, "leave when since>0;");
        x.crosser(5, 0, 0, 9, 0, 0);
        x.crosser(7, 0, 0, 9, 0, 0);
        Due.is("21: sooner when left later", x.send(3, 0, 1, 0, 20, 0), 5);
        Due.is("21: sooner when left later", x.send(3, 0, 1, 0, 20, 1), 5);
        Due.is("21: not in those hours", x.send(3, 0, 1, 0, 4, 0), -1);
        x.fetch(x.load(1, 0, 5), 0, 5);
        Due.is("21: one that was fetched", x.send(3, 0, 1, 0, 20, 0), 5);
    }

    private static void fewest() {
        TakeOver x = new TakeOver();
        x.load(5, 0, 0);
        x.load(6, 0, 0);
        x.load(7, 1, 0);
        x.offer(2, 0, 0, 6, 10);
        x.offer(3, 0, 0, 6, 10);
        x.offer(4, 0, 0, 11, 50);
        x.offer(4, 0, 1, 99, 1);
        Due.is("23: one who bears both", x.fewest(3, 1, 4, 0), 4);
        Due.is("23: his price", x.fewest(3, 1, 4, 1), 50);
        Due.is("23: two of them by hour 3", x.fewest(3, 1, 3, 0), 3);
        Due.is("23: their price", x.fewest(3, 1, 3, 1), 20);
        Due.is("23: the cheapest, then least", x.fewest(1, 1, 4, 0), 1);
        Due.is("23: none by hour 1", x.fewest(1, 1, 1, 0), -1);
        Due.is("23: none by hour 1", x.fewest(1, 1, 1, 1), -1);
        Due.is("23: nobody is asked for", x.fewest(4, 1, 1, 0), 0);
        Due.is("23: nobody is asked for", x.fewest(4, 1, 1, 1), 0);
        Due.is("23: all in the end", x.fewest(7, 1, 167, 0), 4);
        x.fetch(0, 0, 1);
        Due.is("23: at an end or gone", x.fewest(3, 1, 2, 0), 1);
        x.crosser(4, 0, 0, 99, 0, 0);
        Due.is("23: hired ones come last", x.fewest(2, 0, 4, 0), 8);
        int[][] bad = {{0, 1, 4, 0}, {8, 1, 4, 0}, {-1, 1, 4, 0}, {1, 2, 4, 0}, {1, -1, 4, 0}, {1, 1, 168, 0},
            {1, 1, -1, 0}, {1, 1, 4, 2}, {1, 1, 4, -1}, {Integer.MIN_VALUE, 1, 4, 0}};
        for (int[] b : bad) {
            Due.is("23: fewest(" + java.util.Arrays.toString(b) + ")", x.fewest(b[0], b[1], b[2], b[3]), -1);
        }
        x.hours(3);
        Due.is("23: an hour that went by", x.fewest(2, 1, 2, 0), -1);
        Due.is("23: their hours went by", x.fewest(2, 1, 3, 0), 2);
        x.hours(2);
        Due.is("23: it is over", x.fewest(2, 1, 5, 0), 0);
    }

    private static void fewestOfAlike() {
        TakeOver x = new TakeOver();
        for (int i = 0; i < 8; i++) {
            x.load(1, 0, 0);
            x.offer(0, 0, 0, i < 4 ? 1 : 2, i == 5 || i == 6 ? 3 : 4);
        }
        Due.is("23: fewest first, then cheapest", x.fewest(15, 1, 0, 0), 32 + 64);
        Due.is("23: least as a number", x.fewest(3, 1, 0, 0), 32);
        Due.is("23: by number among the hired", x.fewest(255, 1, 0, 0), 255 - 8 - 4 - 2 - 1 + 0);
        Due.is("23: all their prices", x.fewest(255, 1, 0, 1), 14);
        x.bridges(2);
        x.load(9, 0, 0);
        x.offer(0, 1, 0, 9, 1);
        x.offer(0, 0, 0, 9, 1);
        Due.is("23: the second bridge is crossed first", x.fewest(1, 2, 0, 0), -1);
        x.offer(0, 1, 0, 9, 900);
        Due.is("23: behind him", x.fewest(1, 2, 0, 0), 6);
        Due.is("23: behind him", x.fewest(1, 2, 0, 1), 901);
    }

    private static void right() {
        TakeOver x = new TakeOver();
        x.load(10, 0, 0);
        x.load(20, 0, 0);
        x.load(30, 1, 0);
        x.crosser(1, 0, 0, 10, 0, 3);
        x.crosser(1, 0, 0, 20, 0, 2);
        x.crosser(2, 0, 1, 30, 0, 1);
        // the first one pays, so the second one bears what he left
        Due.is("24: one", x.right(1), 20);
        Due.is("24: two", x.right(2), 30);
        Due.is("24: three", x.right(3), 40);
        Due.is("24: four", x.right(4), -1);
        Due.is("24: right(0)", x.right(0), -1);
        Due.is("24: right(21)", x.right(21), -1);
        Due.is("24: right(-1)", x.right(-1), -1);
        x.set(0, 0, 5);
        Due.is("24: the toll told is not asked", x.right(3), 40);
        Due.is("24: the toll stays", x.look(5), 5);
        x.set(0, 0, -1);
        x.hours(2);
        Due.is("24: from now on", x.right(1), 30);
        Due.is("24: from now on", x.right(2), -1);
        rightBounds();
    }

    private static void rightBounds() {
        TakeOver x = new TakeOver();
        x.load(50, 0, 0);
        x.crosser(0, 0, 0, 50, 0, 6);
        Due.is("24: 300", x.right(1), 300);
        x.bridges(1);
        x.load(43, 0, 0);
        x.crosser(0, 0, 0, 50, 0, 7);
        Due.is("24: 301", x.right(1), -1);
        x.bridges(1);
        x.load(43, 0, 0);
        x.crosser(0, 0, 0, 50, 0, 0);
        Due.is("24: who bears for nothing", x.right(1), 0);
        x.bridges(1);
        x.load(1, 0, 0);
        for (int i = 0; i < 20; i++) {
            x.crosser(i, 0, i % 2, 9, 0, 1);
        }
        Due.is("24: all twenty", x.right(20), 1);
    }

    /** A higher toll may let fewer bear something. */
    private static void rightIsNotSteady() {
        TakeOver x = new TakeOver();
        x.load(10, 0, 0);
        x.load(10, 0, 0);
        x.crosser(0, 0, 0, 20, 0, 5);
        x.crosser(1, 0, 0, 10, 0, 1);
        x.crosser(2, 0, 0, 10, 0, 2);
        Due.is("24: two", x.right(2), 20);
        Due.is("24: one", x.right(1), 10);
        Due.is("24: three", x.right(3), -1);
    }

    private static void night() {
        TakeOver x = new TakeOver();
        x.load(5, 0, 0);
        x.crosser(1, 0, 0, 9, 0, 0);
        x.crosser(1, 0, 0, 9, 0, 0);
        x.crosser(2, 0, 1, 9, 0, 0);
        x.crosser(3, 0, 0, 9, 0, 0);
        for (int i = 1; i < 4; i++) {
            x.set(2, i, 1);
        }
        x.list(1, 1, 1);
        Due.is("26: all sets", x.night(0), 8);
        Due.is("26: in all", x.night(1), 0);
        Due.is("26: the least", x.night(2), 0);
        x.set(2, 0, 1);
        x.image(true);
        x.list(0, 0, 0);
        Due.is("26: none goes with what was at hour 0", x.night(0), 0);
        x.image(false);
        x.list(0, 0, 1);
        x.list(3, 1, 1);
        Due.is("26: sets", x.night(0), 9);
        Due.is("26: in all", x.night(1), 0);
        Due.is("26: the least", x.night(2), 1);
        x.list(2, 0, 1);
        Due.is("26: sets", x.night(0), 3);
        Due.is("26: in all", x.night(1), 12);
        Due.is("26: the least", x.night(2), 13);
        x.list(2, 0, 0);
        Due.is("26: none", x.night(0), 0);
        Due.is("26: none", x.night(1), 0);
        Due.is("26: none", x.night(2), -1);
        Due.is("26: another what", x.night(3), -1);
        Due.is("26: another what", x.night(-1), -1);
    }

    private static void nightAsToldNow() {
        TakeOver x = new TakeOver();
        x.load(5, 0, 0);
        x.crosser(1, 0, 0, 9, 0, 3);
        x.crosser(2, 0, 0, 9, 0, 0);
        x.set(2, 0, 1);
        x.kind(1, 2, 0);
        x.list(1, 1, 1);
        x.hours(10);
        Due.is("26: from hour 0 on", x.night(2), 1);
        Due.is("26: from hour 0 on", x.night(0), 1);
        x.set(0, 0, 0);
        Due.is("26: with the toll told now, by the one behind", x.night(2), 1);
        x.set(2, 1, 1);
        Due.is("26: who goes behind one who stays stays", x.night(0), 1);
        Due.is("26: both", x.night(1), 3);
        Due.law(x, "leave;");
        Due.is("26: with the law told now", x.night(0), 0);
        Due.law(x, "");
        Due.is("26: anew", x.night(0), 1);
        x.list(12, 1, 0);
        Due.is("26: hours to come", x.night(0), 0);
        x.fetch(0, 1, 12);
        Due.is("26: fetched as told now", x.night(0), 1);
        Due.is("26: nothing of it stays", x.look(1), 10);
        Due.is("26: nothing of it stays", x.of(0, 1), 1);
    }

    private static void tooManyMaybe() {
        TakeOver x = new TakeOver();
        for (int i = 0; i < 10; i++) {
            x.crosser(0, 0, 0, 1, 0, 0);
            x.set(2, i, i == 0 ? 0 : 1);
        }
        Due.is("26: nine", x.night(0), -1);
        Due.is("26: nine", x.night(2), -1);
        x.set(2, 5, 0);
        Due.is("26: eight", x.night(0), 256);
        Due.is("26: eight", x.night(1), 0);
        Due.is("26: eight", x.night(2), 0);
    }

    private static void chance() {
        TakeOver x = new TakeOver();
        Due.is("27: chance(10, 10, 8, 0)", x.chance(10, 10, 8, 0), 0);
        Due.is("27: chance(10, 0, 8, 0)", x.chance(10, 0, 8, 0), 10000000000000000L);
        Due.is("27: chance(3, 0, 1, 0)", x.chance(3, 0, 1, 0), 30);
        Due.is("27: chance(3, 2, 1, 0)", x.chance(3, 2, 1, 0), 24);
        // 24 of 100, then 24 + 76 * .3 = 46.8 of 100, of which .8 stay
        Due.is("27: chance(3, 2, 2, 0)", x.chance(3, 2, 2, 0), 3744);
        Due.is("27: chance(3, 2, 2, 1)", x.chance(3, 2, 2, 1), 2);
        Due.is("27: chance(10, 5, 8, 1): the first of several", x.chance(10, 5, 8, 1), 1);
        Due.is("27: chance(1, 9, 8, 1)", x.chance(1, 9, 8, 1), 8);
        int[][] bad = {{-1, 0, 1, 0}, {11, 0, 1, 0}, {0, -1, 1, 0}, {0, 11, 1, 0}, {1, 1, 0, 0}, {1, 1, 9, 0},
            {1, 1, -1, 0}, {1, 1, 1, 2}, {1, 1, 1, -1}};
        for (int[] b : bad) {
            Due.is("27: chance(" + java.util.Arrays.toString(b) + ")", x.chance(b[0], b[1], b[2], b[3]), -1);
        }
    }

    private static void image() {
        TakeOver x = new TakeOver();
        Due.no("28: none", x.image(false));
        x.load(5, 0, 0);
        x.crosser(0, 0, 0, 9, 0, 0);
        x.crosser(9, 0, 1, 9, 0, 2);
        x.set(0, 0, 3);
        Due.law(x, "take;");
        x.offer(5, 0, 0, 1, 1);
        x.list(1, 1, 1);
        x.hours(1);
        Due.yes("28: taken", x.image(true));
        Due.law(x, "leave;leave;  take");
        Due.tape(x, "leave;leave;");
        for (int i = 0; i < 2; i++) {
            x.load(6, 0, 20);
            x.crosser(20, 0, 0, 9, 0, 0);
            x.kind(1, 1, 3);
            x.set(0, 0, 8);
            x.set(1, 0, 1);
            x.set(2, 0, 1);
            x.fetch(0, 1, 30);
            x.offer(30, 0, 0, 1, 1);
            x.list(30, 1, 1);
            x.hours(60);
            Due.yes("28: gone back", x.image(false));
            int[] due = {1, 1, 1, 2, 1, 3, 0, 1, 1, 1, 0};
            for (int what = 0; what < due.length; what++) {
                Due.is("28: look(" + what + ")", x.look(what), due[what]);
            }
            Due.is("28: of(0, 5)", x.of(0, 5), 0);
            Due.is("28: who(1, 6)", x.who(1, 6), 0);
            Due.is("28: who(0, 11)", x.who(0, 11), 0);
            Due.is("28: who(1, 8)", x.who(1, 8), -1);
            Due.is("28: who(1, 10)", x.who(1, 10), 0);
            Due.is("28: waits(1, 0)", x.waits(1, 0), 0);
            Due.is("28: not fetched", x.gathers(1, 40, 0), 1);
            Due.is("28: fault(0) stays", x.fault(0), 1);
            Due.is("28: fault(1) stays", x.fault(1), 18);
            Due.is("28: book", x.book(0, 2), 0);
        }
        Due.is("28: the tape stays", x.text(), 2);
        Due.yes("28: taken anew", x.image(true));
        Due.law(x, "");
        Due.yes("28: gone back", x.image(false));
        Due.is("28: the newer one", x.look(7), 2);
    }

    /** Every row is overwritten ahead of going back; each part is looked at on an object of its own. */
    private static void imageOfAll() {
        int otherParts = 0;
        for (int part = 0; part < PARTS; part++) {
            TakeOver x = muchTold();
            Due.is("28: a line of the book", x.look(4), 1);
            long before = sight(x, part);
            x.image(true);
            overwrite(x);
            Due.yes("28: another book", x.book(0, 0) != 0 && x.book(0, 1) != 0 && x.book(0, 2) != 0);
            otherParts += sight(x, part) != before ? 1 : 0;
            x.image(false);
            Due.is("28: all is as it was", sight(x, part), before);
        }
        Due.is("28: parts with another sight between", otherParts, PARTS);
        imageOfOffersAndLists();
    }

    private static TakeOver muchTold() {
        TakeOver x = new TakeOver();
        x.bridges(2);
        for (int i = 0; i < 3; i++) {
            x.load(5 + i, i, 0);
            x.crosser(i, i % 2, i % 2, 20 + i, i, 3 + i);
            x.offer(10 + i, 1 - i % 2, i % 2, 30 + i, 7 + i);
        }
        x.crosser(30, 0, 0, 20, 0, 0);
        x.kind(3, 1, 5);
        x.kind(2, 2, 3);
        x.fetch(2, 2, 20);
        x.list(0, 1, 3);
        x.list(3, 2, 4);
        Due.law(x, "leave when weight=7; take;");
        x.set(2, 1, 1);
        x.hours(2);
        return x;
    }

    private static void overwrite(TakeOver x) {
        x.bridges(3);
        Due.law(x, "take when room > 9; take when room<5; leave;");
        for (int i = 0; i < 6; i++) {
            x.load(50 + i, 3 - i % 3, 1);
            x.crosser(40 - i, 2, 0, 90 - i, 1, 8);
            x.kind(i, 1, 7 - i);
            x.set(2, i, 1);
            x.offer(160, 2, 1, 9, 99);
            x.list(7, 3, 1);
            x.fetch(i, 2, 150);
        }
        x.hours(60);
    }

    private static void imageOfOffersAndLists() {
        TakeOver x = new TakeOver();
        x.load(9, 0, 0);
        x.offer(2, 0, 0, 9, 7);
        x.crosser(4, 0, 0, 9, 0, 0);
        x.set(2, 0, 1);
        x.list(4, 1, 1);
        x.fetch(0, 1, 6);
        x.image(true);
        x.bridges(2);
        x.load(8, 0, 0);
        x.offer(99, 1, 1, 1, 1);
        x.list(3, 2, 0);
        x.fetch(0, 0, 50);
        x.image(false);
        Due.is("28: an offer's hour, bridge, way, bears", x.fewest(1, 1, 3, 0), 1);
        Due.is("28: an offer's price", x.fewest(1, 1, 3, 1), 7);
        Due.is("28: a list's hour, end, set", x.night(2), 1);
        Due.is("28: when it is fetched", x.gathers(1, 5, 0), 1);
        Due.is("28: when it is fetched", x.gathers(1, 6, 0), 0);
    }

    /** A sum over a part of all that can be seen and be thought. */
    private static long sight(TakeOver x, int part) {
        long sum = 7;
        for (int what = 0; what < 12; what++) {
            sum = sum * 31 + x.of(part, what);
            sum = sum * 31 + x.who(part, what);
            sum = sum * 31 + x.waits(part, what);
            sum = sum * 31 + x.book(part, what);
            sum = sum * 31 + x.look(what);
            sum = sum * 31 + x.over(part, what);
        }
        sum = sum * 31 + x.back(part);
        sum = sum * 31 + x.fewest(1 << part, 2, 60, 0);
        sum = sum * 31 + x.fewest(1 << part, 0, 60, 1);
        sum = sum * 31 + x.night(part);
        sum = sum * 31 + x.gathers(part, 25, 1);
        sum = sum * 31 + x.right(part);
        return sum;
    }

    /** What a thought watched or left out is nothing to the hours that go by. */
    private static void hoursBehindThoughts() {
        TakeOver x = new TakeOver();
        x.load(5, 0, 0);
        x.crosser(3, 0, 0, 9, 0, 0);
        x.crosser(6, 0, 1, 9, 0, 0);
        x.set(2, 0, 1);
        x.list(4, 0, 1);
        x.offer(1, 0, 0, 9, 9);
        Due.is("17: over", x.over(0, 1), 3);
        Due.is("12: hours", x.hours(5), 1);
        Due.is("29: now", x.look(1), 5);
        Due.is("26: night", x.night(2), 0);
        Due.is("12: hours", x.hours(5), 1);
        Due.is("29: now", x.look(1), 10);
        x.bridges(1);
        x.load(5, 0, 0);
        x.offer(2, 0, 0, 9, 9);
        Due.is("23: offers of before are no more", x.fewest(1, 1, 1, 0), -1);
        Due.is("23: the new one", x.fewest(1, 1, 2, 0), 1);
    }

    private static void nothingStays() {
        TakeOver x = new TakeOver();
        x.load(5, 0, 1);
        x.load(6, 1, 1);
        x.crosser(2, 0, 0, 9, 0, 3);
        x.crosser(2, 0, 1, 9, 0, 3);
        x.set(0, 0, 17);
        x.set(2, 0, 1);
        x.offer(3, 0, 1, 9, 9);
        x.hours(1);
        x.over(0, 1);
        x.back(0);
        x.gathers(0, 9, 1);
        x.best(0, 0, 9, 1, 9, 0);
        x.send(1, 0, 1, 1, 9, 0);
        x.fewest(1, 1, 9, 0);
        x.right(1);
        x.night(0);
        int[] due = {1, 1, 2, 2, 0, 17, 0, 0, 1, 0, 0};
        for (int what = 0; what < due.length; what++) {
            Due.is("3: look(" + what + ")", x.look(what), due[what]);
        }
        Due.is("3: of(0, 1)", x.of(0, 1), -1);
        Due.is("3: who(0, 8)", x.who(0, 8), -1);
        Due.is("3: waits(0, 0)", x.waits(0, 0), -1);
        Due.is("3: all goes on as told", x.hours(4), 1);
        Due.is("3: all goes on as told", x.who(1, 10), 17);
    }
}
