import java.util.Random;

/** Runs of calls by seeds, each answer compared with the plain model's. */
public final class RandomRunsTest {
    private static final String[] CALLS = {"noise", "shot", "heard", "loud", "bears", "take", "waits", "rests", "moves",
        "pay", "undo", "hole", "holes", "softest", "next", "loudest", "peak", "calmest", "ours", "best", "order",
        "bribe", "cellar", "cheapest", "breakOff", "join", "odds", "tell", "forget", "when", "hold", "restore", "count",
        "place", "back"};
    private static final int[] EDGES = {-1, -2, 0, 1, 9, 19, 20, 21, 29, 30, 31, 40, 99, 100, 298, 299, 300, 301, 1999,
        2000, 2001, Integer.MAX_VALUE, Integer.MIN_VALUE};

    private final Random random;
    private final int run;
    private final QuietTake program = new QuietTake();
    private final PlainModel model = new PlainModel();
    private final StringBuilder told = new StringBuilder();
    private int wrong;

    private RandomRunsTest(int run) {
        this.run = run;
        random = new Random(run);
    }

    private int below(int n) {
        return random.nextInt(9) == 0 ? EDGES[random.nextInt(EDGES.length)] : random.nextInt(n);
    }

    /** Mostly one of those that there are. */
    private int oneOf(int many) {
        return below(random.nextInt(9) == 0 ? many + 1 : Math.max(1, many));
    }

    private void readText() {
        String text = new RandomTexts(random).text();
        if (text.length() > 1980) {
            text = text.substring(0, 1980);
        }
        compare("clear", program.back(model.count(9)), model.back(model.count(9)));
        for (int[] w : Feeding.words(text)) {
            compare("feed", program.feed(w[0], w[1], w[2], w[3], w[4]), model.feed(w[0], w[1], w[2], w[3], w[4]));
        }
        compare("back", program.back(Feeding.blanks(text)), model.back(Feeding.blanks(text)));
        told.append("\n  text: ").append(text).append("\n ");
        compare("read", program.read(), model.read());
        compare("place", program.place(), model.place());
    }

    private void compare(String call, int got, int want) {
        told.append(' ').append(call).append('=').append(want);
        if (got != want) {
            wrong++;
            if (wrong == 1) {
                System.out.println("run " + run + ": " + told + " but it answered " + got);
            }
        }
    }

    private void compare(String call, boolean got, boolean want) {
        compare(call, got ? 1 : 0, want ? 1 : 0);
    }

    private void callOne() {
        String call = CALLS[random.nextInt(CALLS.length)];
        int noise = oneOf(model.count(0));
        int place = oneOf(model.count(1));
        int shot = oneOf(model.count(2));
        int what = below(2);
        int ahead = below(random.nextBoolean() ? 301 : 30);
        int n = below(random.nextBoolean() ? 31 : 9) + (random.nextBoolean() ? 1 : 0);
        int limit = below(100);
        String said = call + "[noise " + noise + " place " + place + " shot " + shot + " what " + what + " ahead "
            + ahead + " n " + n + " limit " + limit + "]";
        if (!byHand(call, said, noise, place, shot, ahead, n)) {
            wouldBe(call, said, new int[] {noise, place, shot, what, ahead, n, limit});
        }
    }

    private boolean byHand(String call, String said, int noise, int place, int shot, int ahead, int n) {
        switch (call) {
            case "take" -> compare(said, program.take(shot), model.take(shot));
            case "waits" -> compare(said, program.waits(ahead), model.waits(ahead));
            case "rests" -> compare(said, program.rests(n), model.rests(n));
            case "moves" -> compare(said, program.moves(place), model.moves(place));
            case "pay" -> compare(said, program.pay(noise, ahead), model.pay(noise, ahead));
            case "undo" -> compare(said, program.undo(), model.undo());
            case "hold" -> compare(said, program.hold(n % 5), model.hold(n % 5));
            case "restore" -> compare(said, program.restore(n % 5), model.restore(n % 5));
            case "back" -> compare(said, program.back(n), model.back(n));
            case "place" -> compare(said, program.place(), model.place());
            default -> {
                return false;
            }
        }
        return true;
    }

    private void wouldBe(String call, String said, int[] args) {
        int noise = args[0];
        int place = args[1];
        int shot = args[2];
        int what = args[3];
        int ahead = args[4];
        int n = args[5];
        int limit = args[6];
        switch (call) {
            case "noise" -> compare(said, program.noise(noise, n % 10), model.noise(noise, n % 10));
            case "shot" -> compare(said, program.shot(shot, n % 7), model.shot(shot, n % 7));
            case "heard" -> compare(said, program.heard(noise, place, ahead), model.heard(noise, place, ahead));
            case "loud" -> compare(said, program.loud(place, ahead), model.loud(place, ahead));
            case "bears" -> compare(said, program.bears(shot, n % 9), model.bears(shot, n % 9));
            case "hole" -> compare(said, program.hole(place, n, limit), model.hole(place, n, limit));
            case "holes" -> compare(said, program.holes(place, n, limit), model.holes(place, n, limit));
            case "softest" -> compare(said, program.softest(place, n, what), model.softest(place, n, what));
            case "next" -> compare(said, program.next(noise), model.next(noise));
            case "loudest" -> compare(said, program.loudest(noise, place), model.loudest(noise, place));
            case "peak" -> compare(said, program.peak(place, what), model.peak(place, what));
            case "calmest" -> compare(said, program.calmest(ahead), model.calmest(ahead));
            case "ours" -> compare(said, program.ours(place), model.ours(place));
            case "best" -> compare(said, program.best(shot, what), model.best(shot, what));
            case "order" -> compare(said, program.order(shot - 1), model.order(shot - 1));
            case "bribe" -> compare(said, program.bribe(shot, what), model.bribe(shot, what));
            case "cellar" -> compare(said, program.cellar(ahead * 2, what), model.cellar(ahead * 2, what));
            case "cheapest" -> compare(said, program.cheapest(shot, what), model.cheapest(shot, what));
            case "breakOff" -> compare(said, program.breakOff(shot, ahead), model.breakOff(shot, ahead));
            case "join" -> compare(said, program.join(shot), model.join(shot));
            case "odds" -> compare(said, program.odds(shot, ahead, n), model.odds(shot, ahead, n));
            case "forget" -> compare(said, program.forget(), model.forget());
            case "tell" -> tellOne(said, place, limit);
            case "when" -> whenOne(said, n - 1);
            default -> compare(said, program.count(n % 15), model.count(n % 15));
        }
    }

    /** Mostly a track that can be: what is told is what is heard so many SECONDS from now. */
    private void tellOne(String said, int place, int limit) {
        int n = below(100);
        int heard = model.loud(place, Math.floorMod(n, 300));
        int noise = random.nextInt(4) == 0 ? limit : heard;
        compare(said + n + "," + noise, program.tell(place, n, noise), model.tell(place, n, noise));
    }

    private void whenOne(String said, int k) {
        int known = random.nextBoolean() ? k : model.count(11);
        int i = random.nextBoolean() ? -1 : below(60);
        compare(said + known + "," + i, program.when(known, i), model.when(known, i));
    }

    private int go() {
        int calls = 0;
        while (calls < 200 && wrong == 0) {
            if (calls % 60 == 0 && run % 10 != 0 || random.nextInt(150) == 0) {
                readText();
            }
            callOne();
            calls++;
        }
        return wrong;
    }

    public static void main(String[] args) {
        int from = args.length > 0 ? Integer.parseInt(args[0]) : 1;
        int till = args.length > 1 ? Integer.parseInt(args[1]) : 250;
        int wrong = 0;
        for (int run = from; run <= till; run++) {
            wrong += new RandomRunsTest(run).go();
        }
        System.out.println("random runs " + from + " to " + till + ": " + wrong + " answers are not as due");
        if (wrong != 0) {
            System.exit(1);
        }
    }
}
