/** Promises 11 to 16: take, waits, rests, moves, pay, undo. */
public final class ByHandTest {
    private static final Due DUE = new Due();

    private static void takes() {
        QuietTake x = DUE.told("clock c 2 10 3 70 1; place p 0; place q 5; shot s 4 30; shot t 9 70; hear=loud-far*10;");
        DUE.is("take 0", x.take(0), 3);
        DUE.is("second", x.count(3), 4);
        DUE.is("stood", x.count(5), 4);
        DUE.is("takes", x.count(8), 1);
        DUE.is("take 1", x.take(1), 511);
        DUE.is("done", x.count(7), 2);
        DUE.is("second behind both", x.count(3), 13);
        DUE.is("take 0 at 13", x.take(0), 12);
        DUE.is("both done", x.count(7), 3);
        DUE.is("no such shot", x.take(2), -1);
        DUE.is("shot -1", x.take(-1), -1);
        DUE.is("takes so far", x.count(8), 3);
        DUE.is("things done", x.count(10), 3);
        x.moves(1);
        DUE.is("second at q", x.count(3), 22);
        DUE.is("take at q", x.take(0), 15);
        x = DUE.told("clock c 2 10 3 70 1; shot s 4 30;");
        DUE.is("no places", x.take(0), -2);
        DUE.is("no places, no shot", x.take(1), -1);
        DUE.is("nothing happens", x.count(3) + x.count(8) + x.count(10), 0);
        x = DUE.told("place p 0; shot s 3 49; rustles = (stood - 1) * 100;");
        DUE.is("stood 1 more each time", x.take(0), 3);
        DUE.is("stood 3 and more", x.take(0), 0);
        x.rests(1);
        DUE.is("rested", x.take(0), 3);
        x = DUE.told("clock c 0 1 1 50 0; place p 0; shot s 2 50; shot t 2 49;");
        DUE.is("no more than it bears", x.take(0), 3);
        DUE.is("more than it bears", x.take(1), 0);
        x = DUE.told("clock c 0 1 1 50 0; place p 0; shot r 1 99; shot s 3 0; bears = which * 25 + second * 25;");
        DUE.is("by second and which", x.take(1), 6);
        DUE.is("of the first", x.take(0), 0);
    }

    private static void waitsAndRests() {
        QuietTake x = DUE.told("");
        DUE.is("waits 0", x.waits(0), 0);
        DUE.is("no thing done", x.count(10), 0);
        DUE.is("waits 300", x.waits(300), 300);
        DUE.is("waits 301", x.waits(301), -1);
        DUE.is("waits -1", x.waits(-1), -1);
        DUE.is("waits 0 later", x.waits(0), 300);
        DUE.is("stood", x.count(5), 300);
        DUE.is("rests 0", x.rests(0), -1);
        DUE.is("rests 301", x.rests(301), -1);
        DUE.is("rests -1", x.rests(-1), -1);
        DUE.is("stood yet", x.count(5), 300);
        DUE.is("rests 300", x.rests(300), 600);
        DUE.is("stood 0", x.count(5), 0);
        DUE.is("rests 1", x.rests(1), 601);
        DUE.is("waits 1", x.waits(1), 602);
        DUE.is("stood 1", x.count(5), 1);
        DUE.is("second", x.count(3), 602);
        DUE.is("things done", x.count(10), 4);
    }

    private static void moves() {
        QuietTake x = DUE.told("place p 0; place q 0; place r 0; move 99;");
        DUE.is("there", x.moves(0), -2);
        DUE.is("no such place", x.moves(3), -1);
        DUE.is("place -1", x.moves(-1), -1);
        DUE.is("nothing happens", x.count(3) + x.count(10), 0);
        DUE.is("moves", x.moves(2), 99);
        DUE.is("where", x.count(4), 2);
        DUE.is("standing", x.count(5), 99);
        DUE.is("there too", x.moves(2), -2);
        DUE.is("back again", x.moves(0), 198);
        x = DUE.told("place p 0; place q 0; move 0;");
        DUE.is("in no time", x.moves(1), 0);
        DUE.is("yet a thing done", x.count(10), 1);
        x = DUE.told("place p 0; place q 0;");
        DUE.is("move not told", x.moves(1), 5);
        DUE.is("no places", DUE.told("").moves(0), -1);
    }

    private static void pays() {
        QuietTake x = DUE.told("clock a 0 1 1 50 3; chance b 100 9 40 0; place p 0; coins 31;");
        DUE.is("pay 0 seconds", x.pay(0, 0), -1);
        DUE.is("pay -1 seconds", x.pay(0, -1), -1);
        DUE.is("pay 301 seconds", x.pay(1, 301), -1);
        DUE.is("no such noise", x.pay(2, 1), -1);
        DUE.is("noise -1", x.pay(-1, 1), -1);
        DUE.is("not so many", x.pay(0, 11), -2);
        DUE.is("nothing happens", x.count(10) + x.noise(0, 6), 0);
        x.waits(100);
        DUE.is("pays", x.pay(0, 4), 19);
        DUE.is("till", x.noise(0, 6), 104);
        DUE.is("pays on", x.pay(0, 2), 13);
        DUE.is("till, from when it is paid till", x.noise(0, 6), 106);
        DUE.is("not on", x.count(13), 2);
        DUE.is("for nothing", x.pay(1, 300), 13);
        DUE.is("till 400", x.noise(1, 6), 400);
        DUE.is("none on", x.count(13), 0);
        DUE.is("coins", x.count(6), 13);
        x.waits(10);
        DUE.is("pays again", x.pay(0, 4), 1);
        DUE.is("till, from now on", x.noise(0, 6), 114);
        DUE.is("all but one", x.pay(0, 1), -2);
        DUE.is("to the last one", DUE.told("clock a 0 1 1 50 5; coins 1500;").pay(0, 300), 0);
    }

    private static void undos() {
        QuietTake x = DUE.told("clock a 0 9 4 50 3; place p 0; place q 0; shot s 2 60; move 7;");
        x.waits(3);
        x.take(0);
        x.moves(1);
        x.pay(0, 5);
        x.rests(9);
        DUE.is("second", x.count(3), 21);
        DUE.is("can be undone", x.count(10), 5);
        DUE.is("undo the rest", x.undo(), true);
        DUE.is("stood", x.count(5), 12);
        DUE.is("second", x.count(3), 12);
        DUE.is("undo the pay", x.undo(), true);
        DUE.is("coins", x.count(6), 50);
        DUE.is("paid", x.noise(0, 6), 0);
        DUE.is("undo the move", x.undo(), true);
        DUE.is("where", x.count(4), 0);
        DUE.is("done yet", x.count(7), 1);
        DUE.is("undo the take", x.undo(), true);
        DUE.is("takes", x.count(8) + x.shot(0, 2) + x.shot(0, 4) + x.shot(0, 5) + x.count(7), 0);
        DUE.is("second", x.count(3), 3);
        DUE.is("undo the wait", x.undo(), true);
        DUE.is("second", x.count(3), 0);
        DUE.is("none left", x.undo(), false);
        DUE.is("left", x.count(10), 0);
        for (int i = 0; i < 45; i++) {
            x.waits(1);
            DUE.is("can be undone", x.count(10), Math.min(40, i + 1));
        }
        for (int i = 0; i < 40; i++) {
            DUE.is("undo " + i, x.undo(), true);
        }
        DUE.is("the 41st", x.undo(), false);
        DUE.is("second", x.count(3), 5);
        x.waits(2);
        DUE.is("undo a new one", x.undo(), true);
        DUE.is("second again", x.count(3), 5);
        x.waits(0);
        x.waits(301);
        x.take(9);
        x.moves(0);
        DUE.is("no things done", x.count(10), 0);
    }

    /** What is answered of what would be must follow each change. */
    private static void whatWouldBeFollows() {
        QuietTake x = DUE.told("clock a 0 9 4 50 0; place p 0; place q 1; shot s 2 10; hear = loud - far * 20; move 2;");
        DUE.is("loud", x.loud(0, 0), 50);
        x.waits(4);
        DUE.is("loud later", x.loud(0, 0), 0);
        x.undo();
        DUE.is("loud again", x.loud(0, 0), 50);
        DUE.is("breakOff", x.breakOff(0, 0), 0);
        x.pay(0, 2);
        DUE.is("breakOff, paid", x.breakOff(0, 0), -2);
        DUE.is("loud, paid", x.loud(0, 0), 0);
        x.undo();
        DUE.is("loud, unpaid", x.loud(0, 0), 50);
        x.hold(0);
        x.waits(5);
        DUE.is("loud at 5", x.loud(0, 0), 0);
        x.restore(0);
        DUE.is("loud, restored", x.loud(0, 0), 50);
        DUE.is("order", x.order(-1), 6);
        x.moves(1);
        DUE.is("order at the other place", x.order(-1), 4);
    }

    public static void main(String[] args) {
        takes();
        waitsAndRests();
        moves();
        pays();
        undos();
        whatWouldBeFollows();
        DUE.end();
    }
}
