/** Promises 36 to 38: hold, restore, count. */
public final class HoldTest {
    private static final Due DUE = new Due();

    private static QuietTake set() {
        return DUE.told("clock c 0 7 3 50 2; chance d 100 2 10 0; place p 0; place q 1; shot s 2 60; shot t 1 0; move 4;");
    }

    private static void counts(String when, QuietTake x, int... want) {
        for (int what = 0; what < want.length; what++) {
            DUE.is(when + ": count " + what, x.count(what), want[what]);
        }
        DUE.is("count -1", x.count(-1), -1);
        DUE.is("count 14", x.count(14), -1);
    }

    private static void slots() {
        QuietTake x = set();
        DUE.is("nothing held", x.restore(0), false);
        DUE.is("hold 3", x.hold(3), false);
        DUE.is("hold -1", x.hold(-1), false);
        DUE.is("none held", x.count(12), 0);
        DUE.is("hold 2", x.hold(2), true);
        DUE.is("one held", x.count(12), 1);
        DUE.is("hold 2 again", x.hold(2), true);
        DUE.is("one held yet", x.count(12), 1);
        DUE.is("hold 0", x.hold(0), true);
        DUE.is("hold 1", x.hold(1), true);
        DUE.is("three held", x.count(12), 3);
        DUE.is("restore 3", x.restore(3), false);
        DUE.is("restore -1", x.restore(-1), false);
        DUE.is("restore the greatest int", x.restore(Integer.MAX_VALUE), false);
        DUE.is("restore 0", x.restore(0), true);
        DUE.is("restore 1", x.restore(1), true);
        DUE.is("restore 2", x.restore(2), true);
        DUE.is("three held yet", x.count(12), 3);
    }

    private static void allIsHeld() {
        QuietTake x = set();
        x.take(0);
        x.moves(1);
        x.pay(0, 5);
        x.tell(0, 0, 5);
        counts("ahead", x, 2, 2, 2, 6, 1, 6, 40, 1, 1, 0, 3, 1, 0, 2);
        x.hold(0);
        DUE.is("hold is no thing done", x.count(10), 3);
        x.take(1);
        x.rests(5);
        x.moves(0);
        x.pay(0, 10);
        x.tell(0, 1, 5);
        x.feed(0, 0, 0, 0, 0);
        DUE.is("restore", x.restore(0), true);
        counts("restored", x, 2, 2, 2, 6, 1, 6, 40, 1, 1, 20, 0, 2, 1, 2);
        DUE.is("paid till", x.noise(0, 6), 11);
        DUE.is("takes of the other", x.shot(1, 4), 0);
        DUE.is("nothing can be undone", x.undo(), false);
        x.waits(9);
        DUE.is("what it holds stays", x.restore(0), true);
        DUE.is("second", x.count(3), 6);
        DUE.is("what is not held changes nothing", x.restore(1), false);
        x.waits(1);
        DUE.is("not held, things done", x.restore(1), false);
        DUE.is("can be undone", x.count(10), 1);
        DUE.is("undone", x.undo(), true);
        DUE.is("another text", Feeding.read(x, "move 1;") != 0 ? 0 : 1, 0);
        DUE.is("held yet behind a FAULT", x.restore(0), true);
        DUE.is("a text", x.read(), 0);
        DUE.is("no longer held", x.restore(0), false);
    }

    private static void countsAll() {
        QuietTake x = set();
        counts("at first", x, 2, 2, 2, 0, 0, 0, 50, 0, 0, 0, 0, 0, 0, 3);
        x.waits(1);
        x.take(0);
        x.take(1);
        x.feed(0, 0, 0, 0, 0);
        x.tell(1, 1, 1);
        x.hold(1);
        x.hold(2);
        counts("then", x, 2, 2, 2, 4, 0, 4, 50, 1, 2, 20, 3, 1, 2, 2);
    }

    public static void main(String[] args) {
        slots();
        allIsHeld();
        countsAll();
        DUE.end();
    }
}
