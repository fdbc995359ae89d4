/** Promises 6 to 10 and '==== II' of 'Terms': LAWS, NOISES, LOTS, RUSTLING, at their bounds and just beyond them. */
public final class EdgesOfLawsTest {
    private static final Due DUE = new Due();
    /** The least int, in INTS of four digits. */
    private static final String LEAST = "(2048*4096*256)";
    private static final String MOST = "(2048*4096*256-1)";

    /** What HEAR tells in SECOND 4, they having stood 4, of a NOISE whose AGE is then 4. */
    private static void law(String law, int want) {
        QuietTake x = DUE.told("clock b 9 9 1 9 0; clock c 0 10 10 50 0; place p 3; shot s 2 9; hear = " + law + ";");
        x.waits(4);
        DUE.is("hear = " + law, x.heard(1, 0, 0), want);
    }

    private static void holds(String left, String right, boolean want) {
        law("if " + left + "<" + right + " then 7 else 8", want ? 7 : 8);
    }

    /** 'the E of the first if that holds (one less than the other), else the last one'. */
    private static void theFirstThatHolds() {
        holds("1", "2", true);
        holds("2", "2", false);
        holds("3", "2", false);
        holds("0-1", "0", true);
        holds("0", "0-1", false);
        holds(LEAST, MOST, true);
        holds(MOST, LEAST, false);
        holds(LEAST, LEAST, false);
        holds(LEAST, "0", true);
        holds("0", MOST, true);
        // Not by what is left if one is taken from the other: that would wrap.
        holds("0-2", MOST, true);
        holds(MOST, "0-2", false);
        String[] ifs = {"if day<5 then 11 else ", "if day<6 then 12 else ", "if day<7 then 13 else ",
            "if day<8 then 14 else "};
        QuietTake x = DUE.told("clock c 0 1 1 1 0; place p 0; hear = " + String.join("", ifs) + "15;");
        int[] want = {11, 12, 13, 14, 15, 15};
        for (int i = 0; i < want.length; i++) {
            DUE.is("day " + (4 + i), x.heard(0, 0, 4 + i), want[i]);
        }
    }

    /** 'ints of 32 bits that wrap'. */
    private static void intsThatWrap() {
        holds(LEAST, "0", true);
        holds(MOST + "+1", "0", true);
        holds("0", LEAST + "-1", true);
        holds("0-" + LEAST, "0", true);
        holds("0-" + MOST, "0", true);
        holds("0-" + MOST + "-1", "1-" + MOST, true);
        holds("0-" + MOST + "-2", "0", false);
        law("4096*4096*256", 0);
        law("4096*4096*256+9", 9);
        law("4096*4096*256-1+9", 8);
        law(MOST + "*2+5", 3);
        law(MOST + "*" + MOST, 1);
        law(LEAST + "*" + LEAST + "+6", 6);
        law(LEAST + "+" + LEAST + "+6", 6);
        law("9999*9999*9999*9999*0+3", 3);
    }

    /** '/ rounded towards 0'. */
    private static void rounding() {
        law("7/2", 3);
        law("8/2", 4);
        law("1/2", 0);
        law("10+(0-7)/2", 7);
        law("10+7/(0-2)", 7);
        law("10+(0-7)/(0-2)", 13);
        law("10+(0-1)/2", 10);
        law("10+(0-2)/2", 9);
        law("10+" + LEAST + "/" + MOST, 9);
        law("10+" + MOST + "/" + LEAST, 10);
        law("10+" + LEAST + "/" + LEAST, 11);
        // The least int by -1 wraps to itself.
        holds(LEAST + "/(0-1)", "0", true);
        law("10+" + LEAST + "/(0-1)/" + LEAST, 11);
    }

    /** 'a LAW in which something that is looked at is divided by 0 is 0'. */
    private static void dividedByZero() {
        law("9/1", 9);
        law("9/0", 0);
        law("9+9/0", 0);
        law("9/0*0+9", 0);
        law("0/0+9", 0);
        law("0/1+9", 9);
        law("9/(day-4)+9", 0);
        law("9/(day-3)+9", 18);
        law("9/(day-5)+19", 10);
        law("9+1/(1/2)", 0);
        law("9+1/(4096*4096*256)", 0);
        law("9+1/(1/0)", 0);
        law(LEAST + "/0+9", 0);
        // Looked at: both sides of each if till one holds, and its E; not what stands behind that.
        law("if 1/0<1 then 9 else 9", 0);
        law("if 1<1/0 then 9 else 9", 0);
        law("if 1<2 then 9/0 else 9", 0);
        law("if 2<2 then 9/0 else 9", 9);
        law("if 1<2 then 9 else 9/0", 9);
        law("if 2<2 then 9 else 9/0", 0);
        law("if 1<2 then 9 else if 1/0<1 then 8 else 7", 9);
        law("if 2<2 then 9 else if 1/0<1 then 8 else 7", 0);
        law("if 2<2 then 1/0 else if 1<2 then 8 else 1/0", 8);
        QuietTake x = DUE.told("clock c 0 1 1 1 0; place p 0; shot s 1 9; bears = 9+1/0; rustles = 100+1/0;");
        DUE.is("bears is 0", x.bears(0, 0), 0);
        DUE.is("not borne", x.take(0), 0);
        DUE.is("rustles is 0", x.ours(0), 0);
    }

    /** 'a VAR not told for a LAW is 0 in it; day: the SECOND.' */
    private static void varsOfEachLaw() {
        String set = "clock b 9 9 1 9 0; clock c 0 10 10 50 0; place o 1; place p 3; shot r 5 1; shot s 6 30; move 2;";
        String[] vars = {"loud", "age", "lasts", "far", "limit", "second", "stood", "which", "day"};
        int[] hear = {50, 6, 10, 3, 0, 0, 0, 1, 6};
        int[] bears = {0, 0, 0, 0, 30, 2, 0, 1, 8};
        for (int i = 0; i < vars.length; i++) {
            QuietTake x = DUE.told(set + "hear=" + vars[i] + ";bears=" + vars[i] + ";");
            DUE.is("moves", x.moves(1), 2);
            DUE.is("waits", x.waits(4), 6);
            DUE.is("stood", x.count(5), 6);
            DUE.is("hear = " + vars[i], x.heard(1, 1, 0), hear[i]);
            DUE.is("hear = " + vars[i] + ", as NOISE", x.loud(1, 0), hear[i]);
            DUE.is("bears = " + vars[i], x.bears(1, 2), bears[i]);
            // RUSTLES knows but how long they stood (7, as they have rested ahead) and the SECOND.
            x = DUE.told(set + "hear=0;rustles=" + vars[i] + "*100;");
            x.waits(10);
            x.take(1);
            x.rests(1);
            x.waits(7);
            DUE.is("rustles = " + vars[i], x.loud(1, 0), i == 6 || i == 8 ? 50 : 0);
        }
        // Within a TAKE, second is of BEARS alone, and the day goes on.
        QuietTake x = DUE.told("clock c 0 1 1 9 0; place p 0; shot s 9 0; hear = second*9; bears = 0;");
        DUE.is("hear knows no second", x.take(0), 511);
        x = DUE.told("clock c 0 1 1 9 0; place p 0; shot s 9 0; hear = day; bears = 4;");
        DUE.is("hear knows the day", x.take(0), 31);
        x = DUE.told("clock c 0 1 1 4 0; place p 0; shot s 9 0; bears = second;");
        DUE.is("bears knows the second", x.take(0), 496);
        DUE.is("anew in the next TAKE", x.take(0), 496);
        x = DUE.told("clock c 0 1 1 13 0; place p 0; shot s 9 0; bears = day;");
        DUE.is("the day of the first TAKE", x.take(0), 0);
        DUE.is("the day of the next", x.take(0), 496);
    }

    private static void ages(String text, int from, int... ages) {
        QuietTake x = DUE.told(text + "place p 0; hear = age + 1;");
        for (int t = from; t > 0; t -= 300) {
            x.waits(Math.min(300, t));
        }
        for (int i = 0; i < ages.length; i++) {
            String when = text + " in SECOND " + (from + i);
            DUE.is("heard of " + when, x.heard(0, 0, i), Math.max(0, ages[i] + 1));
        }
        for (int i = 0; i < ages.length; i++) {
            String when = text + " in SECOND " + (from + i);
            DUE.is("age of " + when, x.noise(0, 5), ages[i]);
            DUE.is("on of " + when, x.noise(0, 4), ages[i] < 0 ? 0 : 1);
            DUE.is("bits of " + when, x.count(13), ages[i] < 0 ? 0 : 1);
            x.waits(1);
        }
    }

    /** 'if t is no less than its first one, and the rest of t less that, by EVERY, is less than LASTS'. */
    private static void noisesOfTheClock() {
        ages("clock c 0 1 1 9 0;", 0, 0, 0, 0);
        ages("clock c 0 2 1 9 0;", 0, 0, -2, 0, -2);
        ages("clock c 1 2 1 9 0;", 0, -2, 0, -2, 0);
        ages("clock c 0 3 2 9 0;", 0, 0, 1, -2, 0, 1, -2);
        ages("clock c 0 3 3 9 0;", 0, 0, 1, 2, 0, 1, 2);
        ages("clock c 0 3 4 9 0;", 0, 0, 1, 2, 0, 1, 2);
        ages("clock c 2 3 99 9 0;", 0, -2, -2, 0, 1, 2, 0);
        // Ahead of its first SECOND it is not ON, even if the rest would be small.
        ages("clock c 5 3 2 9 0;", 0, -2, -2, -2, -2, -2, 0, 1, -2, 0);
        ages("clock c 999 999 1 9 0;", 997, -2, -2, 0, -2);
        ages("clock c 999 999 99 9 0;", 1096, 97, 98, -2);
        ages("clock c 999 999 2 9 0;", 1996, -2, -2, 0, 1, -2);
        ages("clock c 0 999 99 9 0;", 97, 97, 98, -2);
    }

    /** 'if it has begun in one of the LASTS SECONDS that end with t (0 and later): AGE is t less the latest such one'. */
    private static void noisesOfChance() {
        // By SEED 0 it is LOT 0 of NOISE 0 in SECONDS 190 and 277, LOT 1 in 139; no other one till 400 is below 2.
        ages("chance c 1 1 9 0;", 188, -2, -2, 0, -2);
        ages("chance c 1 2 9 0;", 189, -2, 0, 1, -2);
        ages("chance c 1 20 9 0;", 189, -2, 0, 1, 2);
        ages("chance c 1 20 9 0;", 208, 18, 19, -2);
        ages("chance c 2 20 9 0;", 138, -2, 0, 1);
        ages("chance c 1 20 9 0;", 138, -2, -2, -2);
        // The latest one counts, not the first.
        ages("chance c 100 20 9 0;", 0, 0, 0, 0);
        ages("chance c 67 3 9 0;", 0, 0, 1, 0);
        ages("chance c 66 3 9 0;", 0, 0, 1, 2);
        // By SEED 16 LOT 100 of -8 would be 1, of 0 it is 98.
        ages("chance c 50 20 9 0; seed 16;", 0, -2);
        QuietTake x = DUE.told("chance c 1 20 9 0; place p 0;");
        x.waits(190);
        DUE.is("its age in 19", x.heard(0, 0, 19), 9);
        DUE.is("its age in 20", x.heard(0, 0, 20), 0);
        x.pay(0, 5);
        DUE.is("paid in its midst", x.noise(0, 5), -2);
        x.waits(5);
        DUE.is("it went on behind", x.noise(0, 5), 5);
    }

    /** 'it begins in a SECOND if LOT 100 of the SEED and 8 * that and its number is less than its odds'. */
    private static void odds() {
        // SEED, SECOND, number, LOT: worked out apart from the program.
        int[][] lots = {{0, 0, 0, 59}, {0, 0, 7, 69}, {0, 1, 0, 88}, {0, 1, 7, 75}, {0, 300, 7, 53}, {0, 999, 0, 86},
            {1, 0, 0, 6}, {1, 300, 7, 47}, {7, 0, 7, 75}, {9999, 0, 0, 21}, {9999, 1, 7, 37}, {9999, 999, 7, 45},
            {0, 190, 0, 0}, {0, 135, 0, 99}};
        for (int[] lot : lots) {
            StringBuilder others = new StringBuilder();
            for (int i = 0; i < lot[2]; i++) {
                others.append("clock x").append((char) ('a' + i)).append(" 999 999 1 0 0;");
            }
            for (int odds = lot[3]; odds <= lot[3] + 1; odds++) {
                QuietTake x = DUE.told(others + "chance c " + odds + " 1 9 0; place p 0; seed " + lot[0] + ";");
                for (int t = lot[1]; t > 0; t -= 300) {
                    x.waits(Math.min(300, t));
                }
                String what = "seed " + lot[0] + ", second " + lot[1] + ", noise " + lot[2] + ", odds " + odds;
                DUE.is(what, x.noise(lot[2], 4), odds > lot[3] ? 1 : 0);
                DUE.is(what + ", heard", x.heard(lot[2], 0, 0), odds > lot[3] ? 9 : 0);
            }
        }
        QuietTake x = DUE.told("chance c 0 20 9 0; chance d 100 1 9 0; place p 0;");
        for (int n = 0; n <= 300; n++) {
            DUE.is("odds 0 at " + n, x.heard(0, 0, n), 0);
        }
        x = DUE.told("chance c 0 20 9 0; chance d 100 1 9 0; place p 0;");
        for (int n = 0; n <= 300; n++) {
            DUE.is("odds 100 at " + n, x.heard(1, 0, n), 9);
        }
    }

    /** 'one that is PAID till a SECOND later than t is not ON'. */
    private static void paidTill() {
        QuietTake x = DUE.told("clock c 0 1 1 9 0; chance d 100 1 8 0; place p 0;");
        DUE.is("never paid", x.noise(0, 6), 0);
        DUE.is("on", x.count(13), 3);
        x.pay(0, 1);
        DUE.is("paid till 1, in 0", x.count(13), 2);
        DUE.is("paid till 1, in 1", x.heard(0, 0, 1), 9);
        x.pay(1, 300);
        DUE.is("paid till 300, in 299", x.heard(1, 0, 299), 0);
        DUE.is("paid till 300, in 300", x.heard(1, 0, 300), 8);
        x.waits(1);
        DUE.is("in 1", x.count(13), 1);
        x.waits(298);
        DUE.is("in 299", x.count(13), 1);
        x.waits(1);
        DUE.is("in 300", x.count(13), 3);
        DUE.is("till when it was paid", x.noise(1, 6), 300);
    }

    /** 'HEARD .. held to 0 .. 99; 0 if it is not ON.' */
    private static void heldTo() {
        law("0", 0);
        law("1", 1);
        law("0-1", 0);
        law("98", 98);
        law("99", 99);
        law("100", 99);
        law(MOST, 99);
        law(LEAST, 0);
        QuietTake x = DUE.told("clock c 1 2 1 0 0; place p 0; hear = 7;");
        DUE.is("not on", x.heard(0, 0, 0), 0);
        DUE.is("on, though not loud", x.heard(0, 0, 1), 7);
        int[] told = {-1, 0, 1, 98, 99, 100};
        int[] held = {0, 0, 1, 98, 99, 99};
        for (int i = 0; i < told.length; i++) {
            x = DUE.told("shot s 1 9; bears = " + (told[i] < 0 ? "0-1" : "" + told[i]) + ";");
            DUE.is("bears " + told[i], x.bears(0, 0), held[i]);
        }
        DUE.is("bears the most", DUE.told("shot s 1 9; bears = " + MOST + ";").bears(0, 0), 99);
        DUE.is("bears the least", DUE.told("shot s 1 9; bears = " + LEAST + ";").bears(0, 0), 0);
        x = DUE.told("clock c 1 2 1 1 0; place p 0; shot s 2 0; bears = 0 - 5;");
        DUE.is("held to 0: what is quiet is CLEAR", x.take(0), 1);
    }

    private static int rustling(String law, int seed, int n) {
        return DUE.told("place p 0; rustles = " + law + "; seed " + seed + ";").loud(0, n);
    }

    /** 'RUSTLING: 50 if LOT 100 of 8 * t and 4,000,000 more is less than what RUSTLES tells .. held to 0 .. 100'. */
    private static void rustles() {
        // By SEED 0 the LOT is 6 in SECOND 0, 84 in 1, 0 in 118, 99 in 225; by SEED 9999 it is 60 in 0.
        int[][] lots = {{0, 0, 6}, {0, 1, 84}, {0, 118, 0}, {0, 225, 99}, {9999, 0, 60}, {7, 0, 98}};
        for (int[] lot : lots) {
            String what = "by seed " + lot[0] + " in second " + lot[1] + " RUSTLES ";
            DUE.is(what + "as the LOT", rustling("" + lot[2], lot[0], lot[1]), 0);
            DUE.is(what + "1 more", rustling(lot[2] + "+1", lot[0], lot[1]), 50);
            DUE.is(what + "1 less", rustling(lot[2] + "-1", lot[0], lot[1]), 0);
        }
        for (int n : new int[] {0, 118, 225, 300}) {
            DUE.is("0 in " + n, rustling("0", 0, n), 0);
            DUE.is("-1 in " + n, rustling("0-1", 0, n), 0);
            DUE.is("the least in " + n, rustling(LEAST, 0, n), 0);
            DUE.is("100 in " + n, rustling("100", 0, n), 50);
            DUE.is("101 in " + n, rustling("101", 0, n), 50);
            DUE.is("the most in " + n, rustling(MOST, 0, n), 50);
        }
        // NOISE is the greatest of both: 49 heard is less than RUSTLING, 51 more.
        int[] heard = {0, 49, 50, 51, 99};
        for (int loud : heard) {
            QuietTake x = DUE.told("clock c 0 1 1 " + loud + " 0; place p 0; rustles = 100;");
            DUE.is("loud " + loud + " and rustling", x.loud(0, 0), Math.max(50, loud));
            DUE.is("loud " + loud + " heard alone", x.heard(0, 0, 0), loud);
        }
    }

    /** 'the longer they stand': stood, as if they stood on; 0 behind a REST. */
    private static void standing() {
        QuietTake x = DUE.told("clock c 0 1 1 0 0; place p 0; place q 0; shot s 3 99; rustles = (stood - 9) * 100; move 4;");
        DUE.is("stood 9", x.loud(0, 9), 0);
        DUE.is("stood 10", x.loud(0, 10), 50);
        x.take(0);
        DUE.is("a TAKE is standing", x.loud(0, 6) * 100 + x.loud(0, 7), 50);
        x.moves(1);
        DUE.is("a MOVE is standing", x.loud(0, 2) * 100 + x.loud(0, 3), 50);
        x.waits(2);
        DUE.is("a WAIT is standing", x.loud(0, 0) * 100 + x.loud(0, 1), 50);
        x.pay(0, 3);
        DUE.is("a PAY takes no time", x.loud(0, 0) * 100 + x.loud(0, 1), 50);
        x.rests(1);
        DUE.is("a REST is none", x.loud(0, 9) * 100 + x.loud(0, 10), 50);
        DUE.is("stood", x.count(5), 0);
        DUE.is("SECOND", x.count(3), 10);
    }

    /** 'HEARD of a NOISE at a PLACE in n SECONDS (0 .. 300); NONE: no such ones', and of loud, bears, noise, shot. */
    private static void askedOf() {
        QuietTake x = DUE.told("clock a 0 300 1 40 0; clock b 300 999 2 30 0; place p 0; place q 2; shot s 1 9;"
            + "shot t 9 8; hear = loud-far*10;");
        DUE.is("in 0", x.heard(0, 1, 0), 20);
        DUE.is("in 299", x.heard(0, 1, 299), 0);
        DUE.is("in 300", x.heard(0, 1, 300), 20);
        DUE.is("in 301", x.heard(0, 1, 301), -1);
        DUE.is("in -1", x.heard(0, 1, -1), -1);
        DUE.is("the last noise", x.heard(1, 1, 300), 10);
        DUE.is("one more noise", x.heard(2, 1, 300), -1);
        DUE.is("one more place", x.heard(1, 2, 300), -1);
        DUE.is("loud in 300", x.loud(1, 300), 20);
        DUE.is("loud in 301", x.loud(1, 301), -1);
        DUE.is("loud in -1", x.loud(1, -1), -1);
        DUE.is("loud at one more place", x.loud(2, 300), -1);
        DUE.is("bears, the only second", x.bears(0, 0), 9);
        DUE.is("bears, one more", x.bears(0, 1), -1);
        DUE.is("bears, the last second", x.bears(1, 8), 8);
        DUE.is("bears, one more than nine", x.bears(1, 9), -1);
        DUE.is("bears, one less", x.bears(1, -1), -1);
        DUE.is("bears, one more shot", x.bears(2, 0), -1);
        DUE.is("noise, the last what", x.noise(1, 8), 999);
        DUE.is("noise, one more", x.noise(1, 9), -1);
        DUE.is("noise, one less", x.noise(1, -1), -1);
        DUE.is("shot, the last what", x.shot(1, 5), 0);
        DUE.is("shot, one more", x.shot(1, 6), -1);
        DUE.is("shot, one less", x.shot(1, -1), -1);
    }

    /** '(no PLACES: nothing is HEARD)': NOISES are ON, but nobody asks for them at a PLACE. */
    private static void noPlaces() {
        QuietTake x = DUE.told("clock a 0 1 1 40 0; shot s 1 9; rustles = 100;");
        DUE.is("on", x.count(13), 1);
        DUE.is("age", x.noise(0, 5), 0);
        DUE.is("next", x.next(0), 0);
        DUE.is("heard", x.heard(0, 0, 0), -1);
        DUE.is("loud", x.loud(0, 0), -1);
        DUE.is("bears", x.bears(0, 0), 9);
        DUE.is("waits", x.waits(3), 3);
        DUE.is("pays", x.pay(0, 3), 50);
        DUE.is("where", x.count(4), 0);
    }

    /** 'at most 512 calls': as late as one can come by them, all is as ever. */
    private static void theLatestSecond() {
        QuietTake x = DUE.told("clock c 999 7 3 9 1; chance d 66 1 8 0; chance e 67 1 7 0; place p 0; rustles = stood;");
        int calls = 6;
        while (calls < 500) {
            x.waits(300);
            calls++;
        }
        int second = 300 * 494;
        DUE.is("second", x.count(3), second);
        DUE.is("stood", x.count(5), second);
        DUE.is("clock's age", x.noise(0, 5), (second - 999) % 7 < 3 ? (second - 999) % 7 : -2);
        DUE.is("chance", x.noise(1, 4), PlainModel.lot(100, 0, 8 * second + 1) < 66 ? 1 : 0);
        DUE.is("chance", x.noise(2, 4), PlainModel.lot(100, 0, 8 * second + 2) < 67 ? 1 : 0);
        DUE.is("loud", x.loud(0, 300), 50);
        DUE.is("pay", x.pay(0, 50), 0);
        DUE.is("paid till", x.noise(0, 6), second + 50);
        DUE.is("can be undone", x.count(10), 40);
    }

    public static void main(String[] args) {
        theFirstThatHolds();
        intsThatWrap();
        rounding();
        dividedByZero();
        varsOfEachLaw();
        noisesOfTheClock();
        noisesOfChance();
        odds();
        paidTill();
        heldTo();
        rustles();
        standing();
        askedOf();
        noPlaces();
        theLatestSecond();
        DUE.end();
    }
}
