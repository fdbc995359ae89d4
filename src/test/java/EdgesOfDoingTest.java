/** Promises 11 to 16, 36 and 37: what is done by hand, undone, held, at its bounds and just beyond them. */
public final class EdgesOfDoingTest {
    private static final Due DUE = new Due();

    /** 'its SECONDS 0 .. LONG less 1, one after the other'. */
    private static void asLongAsTold() {
        for (int length = 1; length <= 9; length++) {
            QuietTake x = DUE.told("clock c 9 99 1 50 0; place p 0; shot s " + length + " 49; shot t 9 49;");
            DUE.is("take of " + length, x.take(0), (1 << length) - 1);
            DUE.is("its end", x.count(3), length);
            DUE.is("done", x.shot(0, 3), 1);
            DUE.is("good", x.shot(0, 5), 1);
            // Now the loud SECOND 9 is the one that is so much nearer.
            DUE.is("take of 9 from " + length + " on", x.take(1), 511 - (1 << 9 - length));
            DUE.is("not good", x.shot(1, 5), 0);
            DUE.is("all takes", x.count(8), 2);
        }
        // The SECOND behind a TAKE is none of it, nor the one ahead.
        QuietTake x = DUE.told("clock c 3 9 1 50 0; place p 0; shot s 3 49;");
        DUE.is("ahead of the loud one", x.take(0), 7);
        x.waits(1);
        DUE.is("behind the loud one", x.take(0), 7);
        DUE.is("both good", x.shot(0, 5), 2);
    }

    /** 'one is CLEAR if the NOISE then is no more than BEARS tells'. */
    private static void noMoreThanBorne() {
        for (int limit = 0; limit <= 99; limit++) {
            QuietTake x = DUE.told("clock c 0 1 1 50 0; place p 0; shot s 1 " + limit + ";");
            DUE.is("50 borne by " + limit, x.take(0), limit >= 50 ? 1 : 0);
        }
        DUE.is("99 borne by 98", DUE.told("clock c 0 1 1 99 0; place p 0; shot s 1 98;").take(0), 0);
        DUE.is("99 borne by 99", DUE.told("clock c 0 1 1 99 0; place p 0; shot s 1 99;").take(0), 1);
        DUE.is("0 borne by 0", DUE.told("clock c 0 1 1 0 0; place p 0; shot s 1 0;").take(0), 1);
        DUE.is("1 borne by 0", DUE.told("clock c 0 1 1 1 0; place p 0; shot s 1 0;").take(0), 0);
        DUE.is("rustling by 49", DUE.told("place p 0; shot s 1 49; rustles = 100;").take(0), 0);
        DUE.is("rustling by 50", DUE.told("place p 0; shot s 1 50; rustles = 100;").take(0), 1);
    }

    /** 'stood 1 more each time'. */
    private static void stoodOneMoreEachTime() {
        QuietTake x = DUE.told("place p 0; shot s 9 49; rustles = (stood - 3) * 100;");
        DUE.is("stood 0 .. 8", x.take(0), 15);
        DUE.is("stood 9", x.count(5), 9);
        x.rests(300);
        x.waits(2);
        DUE.is("stood 2 .. 10", x.take(0), 3);
        x.rests(1);
        DUE.is("stood 0 .. 8 again", x.take(0), 15);
    }

    /** 'CLEAR SECONDS of all TAKES of a SHOT are JOINED: it is DONE if each is CLEAR in one of them.' */
    private static void joined() {
        // Loud but in one SECOND of ten: each TAKE of 9 has another one CLEAR, or none.
        QuietTake x = DUE.told("clock c 1 10 9 50 0; place p 0; shot s 9 49; shot t 9 99;");
        int all = 0;
        for (int i = 0; i < 9; i++) {
            int clear = x.take(0);
            DUE.is("take " + i, clear, 1 << i);
            all |= clear;
            DUE.is("joined " + i, x.shot(0, 2), all);
            DUE.is("done " + i, x.shot(0, 3), i < 8 ? 0 : 1);
            DUE.is("done, bits " + i, x.count(7), i < 8 ? 0 : 1);
            DUE.is("takes " + i, x.shot(0, 4), i + 1);
            DUE.is("good " + i, x.shot(0, 5), 0);
        }
        DUE.is("a TAKE of what is DONE", x.take(0), 0);
        DUE.is("DONE yet", x.shot(0, 3), 1);
        DUE.is("a good one", x.take(1), 511);
        DUE.is("both, bits", x.count(7), 3);
        DUE.is("of the other no more", x.shot(0, 4), 10);
        DUE.is("of this one", x.shot(1, 4) * 10 + x.shot(1, 5), 11);
        DUE.is("all", x.count(8), 11);
    }

    /** '-2, and nothing happens: there are no PLACES; NONE: no such SHOT.' */
    private static void takesThatAreNot() {
        QuietTake x = DUE.told("place p 0; shot s 1 1; shot t 1 1;");
        DUE.is("the last SHOT", x.take(1), 1);
        DUE.is("one more", x.take(2), -1);
        DUE.is("one less", x.take(-1), -1);
        x = DUE.told("shot s 1 1;");
        DUE.is("no PLACES", x.take(0), -2);
        DUE.is("no PLACES, no such SHOT", x.take(1), -1);
        DUE.is("the SECOND", x.count(3) + x.count(5) + x.count(8) + x.count(10), 0);
        DUE.is("no SHOT at all", DUE.told("place p 0;").take(0), -1);
    }

    /** 'A WAIT of n SECONDS (0 .. 300; 0 is no thing done): which it is'. */
    private static void waits() {
        QuietTake x = DUE.told("");
        DUE.is("0", x.waits(0), 0);
        DUE.is("no thing done", x.count(10), 0);
        DUE.is("1", x.waits(1), 1);
        DUE.is("a thing done", x.count(10), 1);
        DUE.is("300", x.waits(300), 301);
        DUE.is("301", x.waits(301), -1);
        DUE.is("-1", x.waits(-1), -1);
        DUE.is("0 again", x.waits(0), 301);
        DUE.is("two things done", x.count(10), 2);
        DUE.is("stood", x.count(5), 301);
        DUE.is("undo", x.undo(), true);
        DUE.is("the last one, not the 0 behind it", x.count(3), 1);
    }

    /** 'A REST of n SECONDS (1 .. 300): which it is'; 'stood is 0 behind it'. */
    private static void rests() {
        QuietTake x = DUE.told("");
        x.waits(7);
        DUE.is("0", x.rests(0), -1);
        DUE.is("301", x.rests(301), -1);
        DUE.is("-1", x.rests(-1), -1);
        DUE.is("they stand yet", x.count(5), 7);
        DUE.is("1", x.rests(1), 8);
        DUE.is("no more", x.count(5), 0);
        DUE.is("300", x.rests(300), 308);
        DUE.is("three things", x.count(10), 3);
        x.undo();
        x.undo();
        DUE.is("they stand again", x.count(5), 7);
    }

    /** 'A MOVE: which SECOND it is; -2, and nothing happens: one is there; NONE: no such PLACE.' */
    private static void moves() {
        QuietTake x = DUE.told("place p 0; place q 0; place r 0; place s 0; move 99;");
        DUE.is("there", x.moves(0), -2);
        DUE.is("one more", x.moves(4), -1);
        DUE.is("one less", x.moves(-1), -1);
        DUE.is("no thing done", x.count(10), 0);
        DUE.is("the last", x.moves(3), 99);
        DUE.is("there now", x.moves(3), -2);
        DUE.is("where", x.count(4), 3);
        DUE.is("the first", x.moves(0), 198);
        DUE.is("stood", x.count(5), 198);
        x = DUE.told("place p 0; place q 0; move 0;");
        DUE.is("no time", x.moves(1), 0);
        DUE.is("a thing done", x.count(10), 1);
        DUE.is("undone", x.undo(), true);
        DUE.is("back", x.count(4), 0);
        x = DUE.told("place p 0;");
        DUE.is("there is no other", x.moves(0), -2);
        DUE.is("no second one", x.moves(1), -1);
        DUE.is("no PLACES", DUE.told("").moves(0), -1);
    }

    /** 'PAID for n SECONDS (1 .. 300): COINS left; -2, and nothing happens: not so many; NONE: no such ones.' */
    private static void pays() {
        QuietTake x = DUE.told("clock a 0 1 1 9 3; clock b 0 1 1 9 0; coins 30;");
        DUE.is("for 11: 33 of 30", x.pay(0, 11), -2);
        DUE.is("for 10: 30 of 30", x.pay(0, 10), 0);
        DUE.is("for 1: 3 of 0", x.pay(0, 1), -2);
        DUE.is("till", x.noise(0, 6), 10);
        DUE.is("for nothing", x.pay(1, 1), 0);
        DUE.is("0", x.pay(1, 0), -1);
        DUE.is("-1", x.pay(1, -1), -1);
        DUE.is("301", x.pay(1, 301), -1);
        DUE.is("300", x.pay(1, 300), 0);
        DUE.is("till", x.noise(1, 6), 301);
        DUE.is("one more noise", x.pay(2, 1), -1);
        DUE.is("one less", x.pay(-1, 1), -1);
        DUE.is("NONE ahead of -2", x.pay(0, 301), -1);
        DUE.is("three things", x.count(10), 3);
        x = DUE.told("clock a 0 1 1 9 3; coins 29;");
        DUE.is("for 10: 30 of 29", x.pay(0, 10), -2);
        DUE.is("for 9: 27 of 29", x.pay(0, 9), 2);
        x = DUE.told("clock a 0 1 1 9 99; coins 9999;");
        DUE.is("the dearest", x.pay(0, 300), -2);
        DUE.is("all but 99", x.pay(0, 100), 99);
        DUE.is("the last 99", x.pay(0, 1), 0);
        DUE.is("till", x.noise(0, 6), 101);
    }

    /** 'from now on (or from when it is PAID till, if that is later)'. */
    private static void paidOn() {
        for (int now = 3; now <= 7; now++) {
            QuietTake x = DUE.told("clock a 0 1 1 9 0;");
            x.pay(0, 5);
            x.waits(now);
            x.pay(0, 2);
            DUE.is("paid till 5, then again in " + now, x.noise(0, 6), Math.max(5, now) + 2);
        }
        QuietTake x = DUE.told("clock a 0 1 1 9 0;");
        x.waits(300);
        x.pay(0, 1);
        DUE.is("never paid ahead", x.noise(0, 6), 301);
    }

    /** 'The last thing done (take, waits, rests, moves, pay) is undone .. (the last 40 can be).' */
    private static void undos() {
        for (int done = 39; done <= 42; done++) {
            QuietTake x = DUE.told("");
            for (int i = 1; i <= done; i++) {
                x.waits(i);
            }
            int undone = 0;
            while (undone < 50 && x.undo()) {
                undone++;
            }
            DUE.is("undone of " + done, undone, Math.min(40, done));
            DUE.is("SECOND behind them", x.count(3), done <= 40 ? 0 : done == 41 ? 1 : 3);
            DUE.is("none more", x.count(10), 0);
            DUE.is("false", x.undo(), false);
        }
        // Undone ones make room for others.
        QuietTake x = DUE.told("");
        for (int i = 0; i < 40; i++) {
            x.waits(1);
        }
        for (int i = 0; i < 15; i++) {
            x.undo();
        }
        for (int i = 0; i < 20; i++) {
            x.waits(10);
        }
        DUE.is("forty again", x.count(10), 40);
        for (int i = 0; i < 40; i++) {
            DUE.is("undo " + i, x.undo(), true);
        }
        DUE.is("the 41st", x.undo(), false);
        DUE.is("SECOND 5", x.count(3), 5);
    }

    /** Each of the five things is undone wholly. */
    private static void eachThingUndone() {
        String text = "clock c 1 7 3 60 2; chance d 30 2 40 3; place p 0; place q 2; shot s 3 45; shot t 1 0; coins 40;";
        for (int thing = 0; thing < 5; thing++) {
            QuietTake x = DUE.told(text);
            x.hold(1);
            doThing(x, thing);
            DUE.is("thing " + thing + " can be undone", x.count(10), 1);
            DUE.is("thing " + thing + " undone", x.undo(), true);
            QuietTake y = DUE.told(text);
            y.hold(1);
            Twins.compare(DUE, "thing " + thing + " undone", x, y);
        }
    }

    private static void doThing(QuietTake x, int thing) {
        switch (thing) {
            case 0:
                DUE.is("take", x.take(0), 1);
                break;
            case 1:
                DUE.is("waits", x.waits(9), 9);
                break;
            case 2:
                DUE.is("rests", x.rests(9), 9);
                break;
            case 3:
                DUE.is("moves", x.moves(1), 5);
                break;
            default:
                DUE.is("pay", x.pay(1, 9), 13);
        }
    }

    /** What is no thing done cannot be undone: hold, restore, tell, forget, what is refused, what only asks. */
    private static void noThingsDone() {
        QuietTake x = DUE.told("clock c 0 1 1 9 9; place p 0; shot s 1 1;");
        x.hold(0);
        x.tell(0, 0, 9);
        x.forget();
        x.waits(0);
        x.waits(301);
        x.rests(0);
        x.moves(0);
        x.moves(1);
        x.pay(0, 300);
        x.pay(0, 0);
        x.take(1);
        x.odds(0, 0, 20);
        x.feed(0, 0, 0, 0, 0);
        x.back(20);
        DUE.is("none", x.count(10), 0);
        DUE.is("none to undo", x.undo(), false);
    }

    /** 'held in a SLOT (0 .. 2): true; false: no such one.' */
    private static void slots() {
        QuietTake x = DUE.told("place p 0; shot s 1 1;");
        int[] slots = {-1, 0, 1, 2, 3};
        for (int slot : slots) {
            DUE.is("restore " + slot + ", nothing held", x.restore(slot), false);
        }
        for (int slot : slots) {
            x.waits(10);
            DUE.is("hold " + slot, x.hold(slot), slot >= 0 && slot < 3);
            DUE.is("held", x.count(12), Math.max(0, Math.min(3, slot + 1)));
        }
        for (int slot : slots) {
            DUE.is("restore " + slot, x.restore(slot), slot >= 0 && slot < 3);
            DUE.is("SECOND", x.count(3), slot < 0 ? 50 : Math.min(4, slot + 2) * 10);
            if (slot == 2) {
                break;
            }
        }
        DUE.is("restore 3", x.restore(3), false);
        DUE.is("SECOND yet", x.count(3), 40);
        DUE.is("all held yet", x.count(12), 3);
        // One SLOT held alone: the others hold nothing.
        for (int slot = 0; slot < 3; slot++) {
            x = DUE.told("");
            x.hold(slot);
            for (int other = 0; other < 3; other++) {
                DUE.is("held " + slot + ", restore " + other, x.restore(other), slot == other);
            }
        }
        // A SLOT held again holds the later one.
        x = DUE.told("");
        x.waits(1);
        x.hold(0);
        x.waits(1);
        x.hold(0);
        x.waits(1);
        DUE.is("one SLOT", x.count(12), 1);
        x.restore(0);
        DUE.is("the later one", x.count(3), 2);
    }

    /** 'It goes on from what a SLOT holds (that stays there; nothing can be undone then)'. */
    private static void restored() {
        QuietTake x = DUE.told("clock c 0 1 1 9 1; place p 0; place q 0; shot s 1 9; move 3;");
        x.take(0);
        x.moves(1);
        x.pay(0, 9);
        x.hold(2);
        DUE.is("hold leaves what can be undone", x.count(10), 3);
        x.rests(5);
        x.undo();
        x.undo();
        DUE.is("unpaid", x.noise(0, 6), 0);
        DUE.is("restore", x.restore(2), true);
        DUE.is("paid", x.noise(0, 6), 13);
        DUE.is("coins", x.count(6), 41);
        DUE.is("where", x.count(4), 1);
        DUE.is("done", x.count(7), 1);
        DUE.is("nothing can be undone", x.count(10), 0);
        DUE.is("undo", x.undo(), false);
        x.waits(1);
        DUE.is("what is done then can", x.undo(), true);
        DUE.is("and no more", x.undo(), false);
        x.rests(9);
        x.moves(0);
        DUE.is("it stays there", x.restore(2), true);
        DUE.is("as it was", x.count(3) * 1000 + x.count(4) * 100 + x.count(5), 4104);
        // Nothing of it changes with what goes on, nor with what is undone.
        x.take(0);
        x.undo();
        x.pay(0, 1);
        x.restore(2);
        DUE.is("takes", x.count(8), 1);
        DUE.is("paid yet", x.noise(0, 6), 13);
    }

    /** '(not what is TOLD, nor the tape)'. */
    private static void notHeld() {
        QuietTake x = DUE.told("clock c 0 1 1 9 1; place p 0;");
        x.tell(0, 0, 9);
        Feeding.put(x, "coins 1;");
        x.hold(0);
        x.tell(0, 0, 8);
        x.back(3);
        Feeding.put(x, " 2;");
        DUE.is("restore", x.restore(0), true);
        DUE.is("TOLD", x.count(11), 2);
        DUE.is("when", x.when(2, -1), 0);
        DUE.is("tape", x.count(9), 8);
        x.forget();
        x.restore(0);
        DUE.is("forgotten", x.count(11), 0);
        DUE.is("read", x.read(), 0);
        DUE.is("coins", x.count(6), 2);
        DUE.is("what was held is no more", x.restore(0), false);
    }

    /** 'NONE for others': of count, 0 .. 13. */
    private static void counts() {
        QuietTake x = DUE.told("clock c 0 1 1 9 1; place p 0;");
        DUE.is("count 13", x.count(13), 1);
        DUE.is("count 14", x.count(14), -1);
        DUE.is("count 0", x.count(0), 1);
        DUE.is("count -1", x.count(-1), -1);
    }

    public static void main(String[] args) {
        asLongAsTold();
        noMoreThanBorne();
        stoodOneMoreEachTime();
        joined();
        takesThatAreNot();
        waits();
        rests();
        moves();
        pays();
        paidOn();
        undos();
        eachThingUndone();
        noThingsDone();
        slots();
        restored();
        notHeld();
        counts();
        DUE.end();
    }
}
