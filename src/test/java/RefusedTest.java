import java.util.function.ToIntFunction;

/** Of all promises: a call that is refused, and one that asks what would be, changes nothing. */
public final class RefusedTest {
    private static final Due DUE = new Due();
    private static final int LEAST = Integer.MIN_VALUE;
    private static final int MOST = Integer.MAX_VALUE;
    private static final Twins SET = new Twins(DUE, RefusedTest::set);
    private static final Twins NO_PLACES = new Twins(DUE, RefusedTest::withoutPlaces);

    /** Something of all that there is: things done, paid, TOLD, held in SLOTS 0 and 2, and bytes on the tape. */
    private static QuietTake set() {
        QuietTake x = DUE.told("clock c 1 7 3 60 2; chance d 30 2 40 3; place p 0; place q 2; shot s 3 45; shot t 1 0;"
            + "hear = loud - far * 9; bears = limit + second; rustles = stood * 2; move 4; coins 40; seed 5;");
        x.waits(2);
        x.hold(0);
        x.take(0);
        x.moves(1);
        x.hold(2);
        x.pay(1, 5);
        x.tell(0, 3, 60);
        x.tell(1, 5, 42);
        Feeding.put(x, "coins 77; place z 1; sh");
        return x;
    }

    private static QuietTake withoutPlaces() {
        QuietTake x = DUE.told("clock c 1 7 3 60 2; shot s 3 45; shot t 1 0; rustles = stood * 2; coins 40; seed 5;");
        x.waits(2);
        x.hold(1);
        x.pay(0, 3);
        Feeding.put(x, "coins 77;");
        return x;
    }

    private static void none(String call, ToIntFunction<QuietTake> called) {
        SET.same(call, called, -1);
    }

    /** Refused for the one argument that is told, the others being fine. */
    private static void none(String call, IntCall called, int... arguments) {
        for (int n : arguments) {
            none(call + " " + n, x -> called.on(x, n));
        }
    }

    private interface IntCall {
        int on(QuietTake x, int n);
    }

    private static void theTape() {
        none("back", (x, n) -> x.back(n), 24, 2000, MOST, -1, LEAST);
        Twins full = new Twins(DUE, () -> {
            QuietTake x = set();
            for (int i = 0; i < 98; i++) {
                x.feed(0x20202020, 0x20202020, 0x20202020, 0x20202020, 0x20202020);
            }
            DUE.is("all but 17 bytes", x.count(9), 1983);
            return x;
        });
        full.same("feed", x -> x.feed(0x3b3b3b3b, 0x3b3b3b3b, 0x3b3b3b3b, 0x3b3b3b3b, 0x3b3b3b3b), -1);
    }

    private static void thingsThatAreNot() {
        none("noise", (x, n) -> x.noise(n, 2), -1, 2, 7, 8, LEAST, MOST);
        none("noise what", (x, n) -> x.noise(1, n), -1, 9, LEAST, MOST);
        none("shot", (x, n) -> x.shot(n, 1), -1, 2, 5, 6, LEAST, MOST);
        none("shot what", (x, n) -> x.shot(1, n), -1, 6, LEAST, MOST);
        none("heard of", (x, n) -> x.heard(n, 0, 0), -1, 2, 8, LEAST, MOST);
        none("heard at", (x, n) -> x.heard(0, n, 0), -1, 2, 4, LEAST, MOST);
        none("heard in", (x, n) -> x.heard(0, 0, n), -1, 301, LEAST, MOST);
        none("loud at", (x, n) -> x.loud(n, 0), -1, 2, 4, LEAST, MOST);
        none("loud in", (x, n) -> x.loud(0, n), -1, 301, LEAST, MOST);
        none("bears of", (x, n) -> x.bears(n, 0), -1, 2, 6, LEAST, MOST);
        none("bears in", (x, n) -> x.bears(0, n), -1, 3, LEAST, MOST);
        none("bears in, of t", (x, n) -> x.bears(1, n), 1);
        none("count", (x, n) -> x.count(n), -1, 14, LEAST, MOST);
    }

    private static void thingsDone() {
        none("take", (x, n) -> x.take(n), -1, 2, 6, LEAST, MOST);
        none("waits", (x, n) -> x.waits(n), -1, 301, LEAST, MOST);
        SET.same("waits 0", x -> x.waits(0), 9);
        none("rests", (x, n) -> x.rests(n), -1, 0, 301, LEAST, MOST);
        none("moves", (x, n) -> x.moves(n), -1, 2, 4, LEAST, MOST);
        SET.same("moves to where one is", x -> x.moves(1), -2);
        none("pay", (x, n) -> x.pay(n, 1), -1, 2, 8, LEAST, MOST);
        none("pay for", (x, n) -> x.pay(0, n), -1, 0, 301, LEAST, MOST);
        SET.same("pay of 26 by 25 coins", x -> x.pay(0, 13), -2);
        SET.same("pay of 900 by 25 coins", x -> x.pay(1, 300), -2);
        NO_PLACES.same("take without places", x -> x.take(0), -2);
        NO_PLACES.same("take of no shot", x -> x.take(2), -1);
        NO_PLACES.same("moves without places", x -> x.moves(0), -1);
        Twins fresh = new Twins(DUE, () -> DUE.told("clock c 1 7 3 60 2; place p 0; shot s 1 1;"));
        fresh.same("undo of nothing", x -> x.undo() ? 1 : 0, 0);
    }

    private static void whatWouldBe() {
        none("hole at", (x, n) -> x.hole(n, 1, 1), -1, 2, 4, LEAST, MOST);
        none("hole of", (x, n) -> x.hole(0, n, 1), -1, 0, 31, LEAST, MOST);
        none("hole by", (x, n) -> x.hole(0, 1, n), -1, 100, LEAST, MOST);
        none("holes at", (x, n) -> x.holes(n, 1, 1), -1, 2, 4, LEAST, MOST);
        none("holes of", (x, n) -> x.holes(0, n, 1), -1, 0, 31, LEAST, MOST);
        none("holes by", (x, n) -> x.holes(0, 1, n), -1, 100, LEAST, MOST);
        none("softest at", (x, n) -> x.softest(n, 1, 0), -1, 2, 4, LEAST, MOST);
        none("softest of", (x, n) -> x.softest(0, n, 0), -1, 0, 31, LEAST, MOST);
        none("softest what", (x, n) -> x.softest(0, 1, n), -1, 2, LEAST, MOST);
        none("next", (x, n) -> x.next(n), -1, 2, 8, LEAST, MOST);
        none("loudest of", (x, n) -> x.loudest(n, 0), -1, 2, 8, LEAST, MOST);
        none("loudest at", (x, n) -> x.loudest(0, n), -1, 2, 4, LEAST, MOST);
        none("peak at", (x, n) -> x.peak(n, 0), -1, 2, 4, LEAST, MOST);
        none("peak what", (x, n) -> x.peak(0, n), -1, 2, LEAST, MOST);
        none("calmest", (x, n) -> x.calmest(n), -1, 0, 301, LEAST, MOST);
        none("ours", (x, n) -> x.ours(n), -1, 2, 4, LEAST, MOST);
        none("best of", (x, n) -> x.best(n, 0), -1, 2, 6, LEAST, MOST);
        none("best what", (x, n) -> x.best(0, n), -1, 2, LEAST, MOST);
    }

    private static void plans() {
        none("order", (x, n) -> x.order(n), -2, 2, 5, 6, LEAST, MOST);
        none("bribe of", (x, n) -> x.bribe(n, 0), -1, 2, 6, LEAST, MOST);
        none("bribe what", (x, n) -> x.bribe(0, n), -1, 2, LEAST, MOST);
        none("cellar in", (x, n) -> x.cellar(n, 0), -1, 2001, LEAST, MOST);
        none("cellar what", (x, n) -> x.cellar(0, n), -1, 2, LEAST, MOST);
        none("cheapest of", (x, n) -> x.cheapest(n, 0), -1, 2, 6, LEAST, MOST);
        none("cheapest what", (x, n) -> x.cheapest(0, n), -1, 2, LEAST, MOST);
        none("breakOff of", (x, n) -> x.breakOff(n, 0), -1, 2, 6, LEAST, MOST);
        none("breakOff in", (x, n) -> x.breakOff(0, n), -1, 301, LEAST, MOST);
        none("join", (x, n) -> x.join(n), -1, 2, 6, LEAST, MOST);
        none("odds of", (x, n) -> x.odds(n, 0, 1), -1, 2, 6, LEAST, MOST);
        none("odds in", (x, n) -> x.odds(0, n, 1), -1, 301, LEAST, MOST);
        none("odds by", (x, n) -> x.odds(0, 0, n), -1, 0, 21, LEAST, MOST);
    }

    private static void tracksAndSlots() {
        none("tell at", (x, n) -> x.tell(n, 0, 0), -1, 2, 4, LEAST, MOST);
        none("tell in", (x, n) -> x.tell(0, n, 0), -1, 100, LEAST, MOST);
        none("tell of", (x, n) -> x.tell(0, 0, n), -1, 100, LEAST, MOST);
        none("when of", (x, n) -> x.when(n, -1), -1, 3, 20, 21, LEAST, MOST);
        none("when, which", (x, n) -> x.when(0, n), -2, 1000, LEAST, MOST);
        Twins full = new Twins(DUE, () -> {
            QuietTake x = set();
            for (int i = 2; i < 20; i++) {
                DUE.is("tell " + i, x.tell(0, 3, 60), i);
            }
            return x;
        });
        full.same("a 21st tell", x -> x.tell(0, 0, 0), -1);
        for (int slot : new int[] {-1, 3, 32, 33, LEAST, MOST}) {
            SET.same("hold " + slot, x -> x.hold(slot) ? 1 : 0, 0);
            SET.same("restore " + slot, x -> x.restore(slot) ? 1 : 0, 0);
        }
        SET.same("restore of nothing", x -> x.restore(1) ? 1 : 0, 0);
    }

    /** Each call that asks, its arguments being fine, many a time with an answer and a time without. */
    private static int askAll(QuietTake x) {
        int asked = 0;
        for (int i = 0; i < 2; i++) {
            asked += x.heard(i, 0, 300) + x.loud(i, 300) + x.bears(i, 0) + x.noise(i, 5) + x.shot(i, 2) + x.count(i);
            asked += x.hole(i, 3, 45) + x.hole(i, 30, 0) + x.holes(i, 3, 45) + x.softest(i, 4, i) + x.next(i);
            asked += x.loudest(i, i) + x.peak(i, i) + x.calmest(300) + x.ours(i) + x.best(0, i) + x.best(1, i);
            asked += x.order(i) + x.order(-1) + x.bribe(i, 0) + x.bribe(i, 1) + x.cellar(9, i) + x.cellar(2000, i);
            asked += x.cheapest(i, 0) + x.cheapest(i, 1) + x.breakOff(i, 300) + x.join(i) + x.odds(i, 300, 20);
            asked += x.when(i, i) + x.when(2, -1) + x.place();
        }
        return asked;
    }

    private static void whatIsAskedChangesNothing() {
        QuietTake x = set();
        askAll(x);
        Twins.compare(DUE, "all that asks", x, set());
        x = withoutPlaces();
        askAll(x);
        Twins.compare(DUE, "all that asks without places", x, withoutPlaces());
    }

    public static void main(String[] args) {
        theTape();
        thingsThatAreNot();
        thingsDone();
        whatWouldBe();
        plans();
        tracksAndSlots();
        whatIsAskedChangesNothing();
        DUE.end();
    }
}
