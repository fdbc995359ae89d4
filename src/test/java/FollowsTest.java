import java.util.ArrayList;
import java.util.List;
import java.util.function.Consumer;
import java.util.function.ToIntFunction;

/** What is answered follows what was done, and never depends on what was asked ahead, nor in which order. */
public final class FollowsTest {
    private static final Due DUE = new Due();
    private static final String SET = "clock c 1 7 3 60 2; chance d 30 4 40 3; chance e 20 9 55 0; place p 0; place q 2;"
        + "shot s 3 45; shot t 2 30; hear = loud - far * 9 - age; bears = limit + second; rustles = stood * 3 - 9; move 4;"
        + "coins 40; seed 5;";
    private static final String OTHER = "chance d 40 3 47 3; chance e 25 9 50 0; place p 1; place q 2; shot s 2 40;"
        + "shot t 3 20; rustles = (5 - stood) * 9; seed 6;";
    private static final List<String> NAMES = new ArrayList<>();
    private static final List<ToIntFunction<QuietTake>> QUESTIONS = new ArrayList<>();

    private static void question(String name, ToIntFunction<QuietTake> asked) {
        NAMES.add(name);
        QUESTIONS.add(asked);
    }

    private static void questions() {
        for (int i = 0; i < 2; i++) {
            int one = i;
            question("noise " + i, x -> x.noise(one, 5));
            question("heard " + i, x -> x.heard(1, one, 7));
            question("loud " + i, x -> x.loud(one, 2));
            question("bears " + i, x -> x.bears(one, 1));
            question("hole " + i, x -> x.hole(one, 3, 46));
            question("holes " + i, x -> x.holes(one, 2, 49));
            question("softest " + i, x -> x.softest(one, 4, one));
            question("next " + i, x -> x.next(one));
            question("loudest " + i, x -> x.loudest(one, one));
            question("peak " + i, x -> x.peak(one, 1));
            question("ours " + i, x -> x.ours(one));
            question("best " + i, x -> x.best(one, 1));
            question("order " + i, x -> x.order(one - 1));
            question("bribe " + i, x -> x.bribe(one, 1));
            question("cellar " + i, x -> x.cellar(4, one));
            question("cheapest " + i, x -> x.cheapest(one, 1));
            question("breakOff " + i, x -> x.breakOff(one, 3));
            question("join " + i, x -> x.join(one));
            question("odds " + i, x -> x.odds(one, 1, 9));
        }
        question("calmest", x -> x.calmest(9));
        question("on", x -> x.count(13));
    }

    private static void askAll(QuietTake x) {
        for (ToIntFunction<QuietTake> asked : QUESTIONS) {
            asked.applyAsInt(x);
        }
    }

    private static void change(String name, Consumer<QuietTake> ahead, Consumer<QuietTake> change) {
        for (int i = 0; i < QUESTIONS.size(); i++) {
            QuietTake x = DUE.told(SET);
            ahead.accept(x);
            askAll(x);
            change.accept(x);
            QuietTake unasked = DUE.told(SET);
            ahead.accept(unasked);
            change.accept(unasked);
            DUE.is(NAMES.get(i) + " behind " + name, QUESTIONS.get(i).applyAsInt(x),
                QUESTIONS.get(i).applyAsInt(unasked));
        }
    }

    private static void changes() {
        Consumer<QuietTake> nothing = x -> { };
        change("take", nothing, x -> x.take(0));
        change("waits 1", nothing, x -> x.waits(1));
        change("waits 300", nothing, x -> x.waits(300));
        change("rests", x -> x.waits(5), x -> x.rests(2));
        change("moves", nothing, x -> x.moves(1));
        change("pay", nothing, x -> x.pay(1, 9));
        change("undo of waits", x -> x.waits(5), x -> x.undo());
        change("undo of rests", x -> {
            x.waits(6);
            x.rests(1);
        }, x -> x.undo());
        change("undo of pay", x -> x.pay(2, 9), x -> x.undo());
        change("undo of moves", x -> x.moves(1), x -> x.undo());
        change("undo of take", x -> x.take(1), x -> x.undo());
        change("restore", x -> {
            x.hold(0);
            x.waits(5);
            x.moves(1);
        }, x -> x.restore(0));
        change("a text", x -> x.waits(3), x -> Feeding.read(x, OTHER));
        change("a text with a FAULT", x -> x.waits(3), x -> Feeding.read(x, OTHER + "x"));
        change("tell", nothing, x -> x.tell(0, 3, 60));
    }

    private static void pairs() {
        for (int i = 0; i < QUESTIONS.size(); i++) {
            for (int j = 0; j < QUESTIONS.size(); j++) {
                QuietTake x = DUE.told(SET);
                QUESTIONS.get(i).applyAsInt(x);
                DUE.is(NAMES.get(j) + " behind " + NAMES.get(i), QUESTIONS.get(j).applyAsInt(x),
                    QUESTIONS.get(j).applyAsInt(DUE.told(SET)));
            }
        }
    }

    /** A NOISE of CHANCE is ON or not whichever SECOND was asked for ahead. */
    private static void inAnyOrder() {
        int[] want = new int[301];
        for (int n = 0; n <= 300; n++) {
            want[n] = DUE.told(SET).heard(1, 0, n);
        }
        for (int step = -9; step <= 9; step++) {
            QuietTake x = DUE.told(SET);
            for (int i = 0, n = step < 0 ? 300 : 0; i <= 300 && n >= 0 && n <= 300; i++, n += step) {
                DUE.is("heard by steps of " + step + " in " + n, x.heard(1, 0, n), want[n]);
            }
        }
        QuietTake x = DUE.told(SET);
        for (int i = 0; i <= 300; i++) {
            int n = i * 97 % 301;
            DUE.is("heard to and fro in " + n, x.heard(1, 0, n), want[n]);
        }
    }

    public static void main(String[] args) {
        questions();
        changes();
        pairs();
        inAnyOrder();
        DUE.end();
    }
}
