/** Promises 12 to 16: hours that go by, and what is seen of them. */
public final class HoursTest {
    public static void main(String[] args) {
        hours();
        of();
        who();
        strict();
        toll();
        waits();
        behind();
        behindARing();
        lateKinds();
        order();
        bookIsFull();
        severalBridges();
        Due.end();
    }

    private static void hours() {
        TakeOver x = new TakeOver();
        int[] bad = {0, -1, 169, Integer.MAX_VALUE, Integer.MIN_VALUE};
        for (int n : bad) {
            Due.is("12: hours(" + n + ")", x.hours(n), -1);
            Due.is("12: nothing is done", x.look(1), 0);
        }
        x.load(1, 0, 0);
        x.load(2, 0, 0);
        x.crosser(0, 0, 0, 9, 0, 0);
        x.crosser(0, 0, 1, 9, 0, 0);
        x.crosser(3, 0, 0, 1, 0, 0);
        x.crosser(167, 0, 1, 1, 0, 0);
        Due.is("12: each as often as it was", x.hours(1), 4);
        Due.is("12: the rest", x.hours(167), 2);
        Due.is("12: look(1)", x.look(1), 168);
        Due.is("12: beyond", x.hours(1), -1);
        Due.is("12: trips", x.of(0, 3), 4);
        Due.is("12: trips", x.of(1, 3), 2);
    }

    private static void of() {
        TakeOver x = new TakeOver();
        x.load(7, 1, 2);
        int[] before = {7, -1, -1, 0, 2, 0, -2};
        for (int what = 0; what < before.length; what++) {
            Due.is("13: of(0, " + what + ")", x.of(0, what), before[what]);
        }
        x.crosser(4, 0, 1, 9, 0, 0);
        x.hours(3);
        int[] left = {7, 1, 2, 0, 2, 0, -2};
        for (int what = 0; what < left.length; what++) {
            Due.is("13: of(0, " + what + ")", x.of(0, what), left[what]);
        }
        x.fetch(0, 0, 6);
        x.hours(4);
        int[] gone = {7, 0, 4, 1, 2, 1, -2};
        for (int what = 0; what < gone.length; what++) {
            Due.is("13: of(0, " + what + ")", x.of(0, what), gone[what]);
        }
        Due.is("13: of(1, 0)", x.of(1, 0), -2);
        Due.is("13: of(-1, 0)", x.of(-1, 0), -2);
        Due.is("13: of(0, -1)", x.of(0, -1), -2);
        Due.is("13: of(30, 0)", x.of(30, 0), -2);
    }

    private static void who() {
        TakeOver x = new TakeOver();
        x.crosser(2, 0, 1, 20, 5, 3);
        x.kind(0, 1, 4);
        x.set(2, 0, 1);
        x.set(0, 0, 29);
        x.load(10, 1, 0);
        x.hours(7);
        int[] due = {2, 0, 1, 20, 5, 3, 1, 4, 6, 0, 29, 1, -2};
        for (int what = 0; what < due.length; what++) {
            Due.is("14: who(0, " + what + ")", x.who(0, what), due[what]);
        }
        Due.is("14: who(1, 0)", x.who(1, 0), -2);
        Due.is("14: who(-1, 0)", x.who(-1, 0), -2);
        Due.is("14: who(0, -1)", x.who(0, -1), -2);
        Due.is("14: who(20, 8)", x.who(20, 8), -2);
    }

    private static void strict() {
        TakeOver x = new TakeOver();
        x.load(5, 0, 0);
        x.load(9, 0, 0);
        x.load(2, 0, 0);
        x.load(3, 0, 0);
        x.crosser(0, 0, 0, 12, 2, 0);
        x.image(true);
        Due.is("2: not strict", x.hours(1), 3);
        Due.is("2: what he bore", x.who(0, 9), 10);
        Due.is("2: order", x.waits(1, 0), 0);
        Due.is("2: order", x.waits(1, 1), 2);
        Due.is("2: order", x.waits(1, 2), 3);
        Due.is("2: left", x.waits(0, 0), 1);
        x.image(false);
        x.set(1, 0, 1);
        Due.is("2: strict", x.hours(1), 1);
        Due.is("2: left", x.waits(0, 0), 1);
        Due.is("2: left", x.waits(0, 2), 3);
        x.image(false);
        x.set(1, 0, 1);
        Due.law(x, "leave when weight=5;");
        Due.is("2: strict looks at heavier ones alone", x.hours(1), 1);
        Due.is("2: 9 is not heavier then", x.book(0, 0), 1);
    }

    private static void toll() {
        TakeOver x = new TakeOver();
        x.load(5, 0, 0);
        x.crosser(0, 0, 0, 9, 0, 2);
        x.crosser(1, 0, 1, 9, 0, 2);
        x.image(true);
        x.set(0, 0, 10);
        Due.is("2: not above the toll", x.hours(1), 1);
        Due.is("14: nothing paid", x.who(0, 10), 0);
        x.set(0, 0, 9);
        Due.is("2: above the toll", x.hours(1), 0);
        Due.is("14: paid", x.who(1, 10), 9);
        Due.is("14: crossed", x.who(1, 8), 1);
        Due.is("14: bore", x.who(1, 9), 0);
        Due.is("29: tolls", x.look(10), 9);
        Due.is("13: it stays", x.of(0, 1), 1);
        x.image(false);
        x.set(0, 0, 0);
        Due.is("2: a toll of 0", x.hours(2), 0);
        Due.is("29: tolls", x.look(10), 0);
        x.image(false);
        x.set(0, 0, 4);
        Due.law(x, "leave when hour=0;");
        Due.is("2: he would take nothing", x.hours(1), 0);
        Due.is("14: nothing paid", x.who(0, 10), 0);
    }

    private static void waits() {
        TakeOver x = new TakeOver();
        x.bridges(1);
        x.load(5, 0, 0);
        x.load(6, 0, 3);
        x.crosser(1, 0, 0, 3, 0, 0);
        x.crosser(1, 0, 0, 99, 0, 0);
        x.kind(0, 1, 4);
        x.image(true);
        x.hours(2);
        // as number 0 he came before number 1 had cleared the end
        Due.is("6: not yet", x.who(0, 8), -1);
        x.hours(1);
        Due.is("6: nothing waits", x.who(0, 8), 2);
        x.image(false);
        x.kind(1, 1, 24);
        x.kind(0, 0, 0);
        x.hours(30);
        Due.is("6: he waited as long as he would", x.who(1, 8), 25);
        Due.is("6: he bore all", x.who(1, 9), 11);
        x.image(false);
        x.kind(1, 1, 0);
        x.hours(2);
        Due.is("6: he waits no hour", x.who(1, 8), 1);
        x.image(false);
        x.fetch(0, 0, 2);
        x.kind(1, 1, 24);
        x.kind(0, 1, 24);
        x.hours(3);
        Due.is("6: fetched first", x.who(0, 8), 2);
        Due.is("6: fetched first", x.who(1, 8), 2);
        x.image(false);
        int late = x.crosser(167, 0, 0, 9, 0, 0);
        x.kind(late, 1, 1);
        x.kind(1, 0, 0);
        x.load(99, 0, 5);
        x.hours(168);
        Due.is("6: he waits beyond the last hour", x.who(late, 8), -1);
    }

    private static void behind() {
        TakeOver x = new TakeOver();
        for (int i = 0; i < 9; i++) {
            x.load(1, 0, 0);
        }
        // 4 leads; behind 4: 1 and 5; behind 1: 6 and 0; behind 6: 3. 2 is plain in the same hour.
        for (int i = 0; i < 7; i++) {
            x.crosser(i == 2 || i == 4 ? 2 : 9, 0, 0, 1, 0, 0);
        }
        x.kind(1, 2, 4);
        x.kind(5, 2, 4);
        x.kind(6, 2, 1);
        x.kind(0, 2, 1);
        x.kind(3, 2, 6);
        Due.is("2: hours(3)", x.hours(3), 7);
        int[] due = {2, 4, 1, 0, 6, 3, 5};
        for (int i = 0; i < due.length; i++) {
            Due.is("2: book(" + i + ", 1)", x.book(i, 1), due[i]);
            Due.is("2: book(" + i + ", 0)", x.book(i, 0), i);
            Due.is("14: who", x.who(due[i], 8), 2);
        }
        Due.is("2: nobody crosses twice", x.hours(20), 0);
    }

    private static void behindARing() {
        TakeOver x = new TakeOver();
        x.load(1, 0, 0);
        x.crosser(1, 0, 0, 9, 0, 0);
        x.crosser(1, 0, 0, 9, 0, 0);
        x.crosser(0, 0, 0, 9, 0, 9);
        x.crosser(0, 0, 0, 9, 0, 0);
        x.kind(0, 2, 1);
        x.kind(1, 2, 0);
        x.kind(3, 2, 2);
        x.set(0, 0, 1);
        Due.is("2: behind one who pays", x.hours(1), 1);
        Due.is("2: he paid", x.who(2, 10), 1);
        Due.is("2: he bore it", x.who(3, 9), 1);
        x.hours(10);
        Due.is("2: nobody leads", x.who(0, 8), -1);
        Due.is("2: nobody leads", x.who(1, 8), -1);
    }

    private static void lateKinds() {
        TakeOver x = new TakeOver();
        x.load(5, 0, 0);
        x.crosser(1, 0, 0, 9, 0, 0);
        x.crosser(60, 0, 0, 9, 9, 0);
        x.kind(0, 2, 1);
        x.hours(10);
        x.image(true);
        Due.yes("6: plain, his hour went by", x.kind(0, 0, 0));
        Due.is("6: he does not cross any more", x.hours(40), 0);
        x.image(false);
        Due.yes("6: one who waits, his hours went by", x.kind(0, 1, 3));
        Due.is("6: he waited long enough", x.hours(1), 1);
        Due.is("14: who(0, 8)", x.who(0, 8), 10);
        x.image(false);
        x.kind(0, 1, 20);
        Due.is("6: he waits still", x.hours(11), 0);
        Due.is("6: he waited long enough", x.hours(1), 1);
        Due.is("14: who(0, 8)", x.who(0, 8), 21);
    }

    private static void order() {
        TakeOver x = new TakeOver();
        x.load(1, 0, 1);
        x.load(2, 1, 0);
        x.load(3, 0, 0);
        x.load(4, 0, 1);
        x.crosser(0, 0, 1, 9, 0, 0);
        x.hours(1);
        Due.is("15: left first", x.waits(0, 0), 2);
        Due.is("15: set down then", x.waits(0, 1), 1);
        x.hours(1);
        Due.is("15: left later, by number", x.waits(0, 2), 0);
        Due.is("15: left later, by number", x.waits(0, 3), 3);
        Due.is("15: none such", x.waits(0, 4), -1);
        Due.is("15: none such", x.waits(0, -1), -1);
        Due.is("15: none such", x.waits(2, 0), -1);
        Due.is("15: none such", x.waits(-1, 0), -1);
        Due.is("15: none such", x.waits(Integer.MAX_VALUE, Integer.MAX_VALUE), -1);
        Due.is("16: book(0, 0)", x.book(0, 0), 1);
        Due.is("16: book(0, 1)", x.book(0, 1), 0);
        Due.is("16: book(0, 2)", x.book(0, 2), 0);
        Due.is("16: book(0, 3)", x.book(0, 3), -1);
        Due.is("16: book(0, -1)", x.book(0, -1), -1);
        Due.is("16: book(1, 0)", x.book(1, 0), -1);
        Due.is("16: book(-1, 0)", x.book(-1, 0), -1);
    }

    private static void bookIsFull() {
        TakeOver x = new TakeOver();
        for (int i = 0; i < 29; i++) {
            x.load(1, 0, 0);
        }
        for (int i = 0; i < 20; i++) {
            x.crosser(i, 0, i % 2, 99, 0, 0);
        }
        Due.is("12: borne in all", x.hours(20), 580);
        Due.is("16: 300 lines at most", x.look(4), 300);
        Due.is("16: the last line", x.book(299, 0), 9);
        Due.is("16: the last line", x.book(299, 1), 10);
        Due.is("16: the last line", x.book(299, 2), 10);
        Due.is("16: none behind it", x.book(300, 0), -1);
        Due.is("13: trips go on", x.of(28, 3), 20);
    }

    private static void severalBridges() {
        TakeOver x = new TakeOver();
        x.bridges(3);
        x.load(5, 0, 0);
        x.crosser(1, 0, 0, 9, 0, 0);
        x.crosser(1, 1, 0, 9, 0, 0);
        x.crosser(1, 2, 0, 9, 0, 0);
        x.crosser(2, 2, 1, 9, 0, 0);
        x.crosser(2, 0, 1, 9, 0, 0);
        Due.is("12: three bridges in an hour", x.hours(2), 3);
        Due.is("13: it is over", x.of(0, 1), 3);
        Due.is("12: one back", x.hours(1), 1);
        Due.is("13: it is at end 2", x.of(0, 1), 2);
        Due.is("15: waits(2, 0)", x.waits(2, 0), 0);
    }
}
