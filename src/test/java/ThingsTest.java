/** Promises 6 to 10: NOISES, SHOTS, what is HEARD, NOISE, what a SHOT bears; LAWS and LOTS. */
public final class ThingsTest {
    private static final Due DUE = new Due();

    private static void noises() {
        QuietTake x = DUE.told("clock bell 3 10 2 60 4; chance dog 100 5 20 7; chance owl 0 1 30 0; place p 0;");
        int[][] want = {{1, 2, 60, 4, 0, -2, 0, 3, 10}, {0, 5, 20, 7, 1, 0, 0, 0, 100}, {0, 1, 30, 0, 0, -2, 0, 0, 0}};
        for (int noise = 0; noise < 3; noise++) {
            for (int what = 0; what < 9; what++) {
                DUE.is("noise " + noise + ", " + what, x.noise(noise, what), want[noise][what]);
            }
            DUE.is("noise what -1", x.noise(noise, -1), -1);
            DUE.is("noise what 9", x.noise(noise, 9), -1);
        }
        DUE.is("noise -1", x.noise(-1, 0), -1);
        DUE.is("noise 3", x.noise(3, 0), -1);
        int[] ages = {-2, -2, -2, 0, 1, -2, -2, -2, -2, -2, -2, -2, -2, 0, 1, -2};
        for (int t = 0; t < ages.length; t++) {
            DUE.is("clock's age at " + t, x.noise(0, 5), ages[t]);
            DUE.is("clock on at " + t, x.noise(0, 4), ages[t] < 0 ? 0 : 1);
            DUE.is("bits at " + t, x.count(13), ages[t] < 0 ? 2 : 3);
            x.waits(1);
        }
    }

    private static void paidNoises() {
        QuietTake x = DUE.told("clock c 0 5 5 9 1; place p 0;");
        x.waits(7);
        DUE.is("age", x.noise(0, 5), 2);
        x.pay(0, 2);
        DUE.is("paid till", x.noise(0, 6), 9);
        DUE.is("paid: age", x.noise(0, 5), -2);
        DUE.is("paid: heard ahead of the end", x.heard(0, 0, 1), 0);
        DUE.is("paid: heard at the end", x.heard(0, 0, 2), 9);
        x.waits(2);
        DUE.is("age behind it", x.noise(0, 5), 4);
        DUE.is("paid till, behind it", x.noise(0, 6), 9);
        // It lasts longer than its turn: the rest is what counts.
        x = DUE.told("clock c 2 3 99 9 1; place p 0;");
        DUE.is("ahead of the first", x.heard(0, 0, 1), 0);
        for (int n = 2; n < 9; n++) {
            DUE.is("always at " + n, x.heard(0, 0, n), 9);
        }
        x.waits(7);
        DUE.is("age of one that lasts longer", x.noise(0, 5), 2);
    }

    private static void shots() {
        QuietTake x = DUE.told("clock c 1 3 1 50 0; place p 0; shot s 3 20; shot t 2 60;");
        int[][] ahead = {{3, 20, 0, 0, 0, 0}, {2, 60, 0, 0, 0, 0}};
        int[][] behind = {{3, 20, 5, 0, 1, 0}, {2, 60, 3, 1, 2, 2}};
        for (int shot = 0; shot < 2; shot++) {
            for (int what = 0; what < 6; what++) {
                DUE.is("shot " + shot + ", " + what, x.shot(shot, what), ahead[shot][what]);
            }
        }
        x.take(0);
        x.take(1);
        x.take(1);
        for (int shot = 0; shot < 2; shot++) {
            for (int what = 0; what < 6; what++) {
                DUE.is("taken: shot " + shot + ", " + what, x.shot(shot, what), behind[shot][what]);
            }
        }
        // Now it is SECOND 7: the loud one is the first of three, and the rest joins what was CLEAR.
        DUE.is("second take", x.take(0), 6);
        DUE.is("joined", x.shot(0, 2), 7);
        DUE.is("done", x.shot(0, 3), 1);
        DUE.is("none of them good", x.shot(0, 5), 0);
        DUE.is("shot what -1", x.shot(0, -1), -1);
        DUE.is("shot what 6", x.shot(0, 6), -1);
        DUE.is("shot -1", x.shot(-1, 0), -1);
        DUE.is("shot 2", x.shot(2, 0), -1);
    }

    private static void law(String law, int want) {
        QuietTake x = DUE.told("clock c 0 10 10 50 0; place p 3; hear = " + law + ";");
        DUE.is("hear = " + law, x.heard(0, 0, 4), want);
    }

    private static void laws() {
        law("loud", 50);
        law("loud + 1", 51);
        law("100", 99);
        law("9999", 99);
        law("0 - 1", 0);
        law("7 / 2", 3);
        law("(0 - 7) / 2 + 10", 7);
        law("7 / (0 - 2) + 10", 7);
        law("2 + 3 * 4", 14);
        law("(2 + 3) * 4", 20);
        law("20 - 5 - 3", 12);
        law("20 - (5 - 3)", 18);
        law("40 / 4 / 2", 5);
        law("40 / (4 / 2)", 20);
        law("2 * 7 / 4", 3);
        law("7 / 4 * 2", 2);
        law("1 + 8 / 2 - 3 * 1 + 2", 4);
        law("((2 + (3 * (4 - 1))) * 2)", 22);
        law("4096 * 4096 * 256 + 7", 7);
        law("0 - 2048 * 4096 * 256 / (9999 * 9999)", 21);
        law("30 + 2048 * 4096 * 256 / (0 - 1) / (9999 * 9999)", 9);
        law("age * 10 + lasts + far", 53);
        law("which * 10 + day", 4);
        law("limit + second + stood + 5", 5);
        law("if 1 < 2 then 3 else 4", 3);
        law("if 2 < 2 then 3 else 4", 4);
        law("if 3 < 2 then 3 else 4", 4);
        law("if 0 - 1 < 0 then 3 else 4", 3);
        law("if 2 < 1 then 1 else if 1 < 1 then 2 else if 1 < 2 then 3 else if 0 < 1 then 4 else 5", 3);
        law("if 2 < 1 then 1 else if 1 < 1 then 2 else if 2 < 2 then 3 else if 1 < 1 then 4 else 5", 5);
        law("if 1 < 2 then 2 * (3 + 4) else 9", 14);
    }

    private static void dividedByZero() {
        law("5 / 0", 0);
        law("5 / 0 + 7", 0);
        law("7 + 5 / (3 - far)", 0);
        law("0 * (5 / 0) + 9", 0);
        law("0 / 0", 0);
        law("0 / 5 + 9", 9);
        law("if 1 < 2 then 7 else 5 / 0", 7);
        law("if 2 < 1 then 5 / 0 else 8", 8);
        law("if 1 < 2 then 5 / 0 else 8", 0);
        law("if 5 / 0 < 2 then 7 else 8", 0);
        law("if 2 < 5 / 0 then 7 else 8", 0);
        law("if 2 < 1 then 7 else if 5 / 0 < 1 then 8 else 9", 0);
        law("if 1 < 2 then 7 else if 5 / 0 < 1 then 8 else 9", 7);
    }

    private static void heards() {
        QuietTake x = DUE.told("clock a 0 300 1 40 0; clock b 300 999 2 30 0; place p 0; place q 2; hear = loud-far*10;");
        DUE.is("heard now", x.heard(0, 0, 0), 40);
        DUE.is("heard farther", x.heard(0, 1, 0), 20);
        DUE.is("heard when not on", x.heard(0, 0, 299), 0);
        DUE.is("heard at 300", x.heard(0, 0, 300), 40);
        DUE.is("the other at 300", x.heard(1, 1, 300), 10);
        DUE.is("heard at 301", x.heard(0, 0, 301), -1);
        DUE.is("heard at -1", x.heard(0, 0, -1), -1);
        DUE.is("no such noise", x.heard(2, 0, 0), -1);
        DUE.is("noise -1", x.heard(-1, 0, 0), -1);
        DUE.is("no such place", x.heard(0, 2, 0), -1);
        DUE.is("place -1", x.heard(0, -1, 0), -1);
        DUE.is("loud at 300", x.loud(0, 300), 40);
        DUE.is("loud at 301", x.loud(0, 301), -1);
        DUE.is("loud at -1", x.loud(0, -1), -1);
        DUE.is("loud at no place", x.loud(2, 0), -1);
        DUE.is("loud at place -1", x.loud(-1, 0), -1);
        x.waits(1);
        DUE.is("loud at 299", x.loud(1, 299), 20);
        DUE.is("loud at 300, b alone", x.loud(1, 300), 10);
    }

    private static void lots() {
        // LOT 100 of SEED 0: of 0 it is 59, of 1 50, of 8 88, of 16 66, of 4,000,000 6, of 4,000,008 84.
        // LOT 100 of SEED 9999: of 0 it is 21, of 1 8, of 8 91, of 4,000,000 60.
        QuietTake x = DUE.told("chance a 59 1 10 0; chance b 51 1 20 0; chance c 0 1 1 0; place p 0;");
        DUE.is("59 of 59", x.noise(0, 4), 0);
        DUE.is("50 of 51", x.noise(1, 4), 1);
        x = DUE.told("chance a 67 2 10 0; chance b 50 1 20 0; place p 0; hear = loud + age;");
        DUE.is("59 of 67, age 0", x.loud(0, 0), 10);
        DUE.is("88 of 67, age 1", x.heard(0, 0, 1), 11);
        DUE.is("66 of 67, age 0", x.heard(0, 0, 2), 10);
        DUE.is("50 of 50", x.noise(1, 4), 0);
        x = DUE.told("chance a 67 1 10 0; place p 0;");
        DUE.is("88 of 67, lasts 1", x.heard(0, 0, 1), 0);
        x = DUE.told("chance a 22 3 10 0; chance b 8 1 20 0; place p 0; seed 9999;");
        DUE.is("seed 9999: 21 of 22", x.heard(0, 0, 0), 10);
        DUE.is("seed 9999: 8 of 8", x.noise(1, 4), 0);
        // LOT 100 of SEED 16: of -8 it would be 1, of 0 it is 98. No NOISE begins ahead of SECOND 0.
        x = DUE.told("chance a 50 20 10 0; place p 0; seed 16;");
        DUE.is("seed 16: nothing ahead of 0", x.heard(0, 0, 0), 0);
        int[] odds = {6, 7, 84, 85};
        int[] first = {0, 50, 50, 50};
        int[] second = {0, 0, 0, 50};
        for (int i = 0; i < odds.length; i++) {
            x = DUE.told("place p 0; rustles = " + odds[i] + ";");
            DUE.is("rustling at 0 by " + odds[i], x.loud(0, 0), first[i]);
            DUE.is("rustling at 1 by " + odds[i], x.loud(0, 1), second[i]);
        }
        x = DUE.told("place p 0; rustles = 1;");
        for (int n = 0; n <= 300; n++) {
            DUE.is("rustling by 1 at " + n, x.loud(0, n), PlainModel.lot(100, 0, 8 * n + 4000000) == 0 ? 50 : 0);
        }
        x = DUE.told("chance c 100 1 10 0; place p 0;");
        x.waits(300);
        for (int n = 0; n <= 300; n++) {
            DUE.is("100 of 100 at " + n, x.heard(0, 0, n), 10);
        }
    }

    private static void rustling() {
        QuietTake x = DUE.told("place p 0; clock c 4 9 2 80 0; clock d 6 9 2 40 0; rustles = stood * 100;");
        int[] want = {0, 50, 50, 50, 80, 80, 50, 50, 50};
        for (int n = 0; n < want.length; n++) {
            DUE.is("loud, standing on, at " + n, x.loud(0, n), want[n]);
        }
        x.waits(2);
        DUE.is("stood 2", x.loud(0, 0), 50);
        x.rests(1);
        DUE.is("stood 0", x.loud(0, 0), 0);
        DUE.is("stood 1", x.loud(0, 1), 80);
        x = DUE.told("place p 9; clock c 0 1 1 9 0; rustles = loud+age+lasts+far+limit+second+which+day*0;");
        x.waits(9);
        DUE.is("vars not told for rustles", x.loud(0, 5), 9);
        x = DUE.told("place p 9; rustles = day * 50 - 400;");
        DUE.is("day 8", x.loud(0, 8), 0);
        DUE.is("day 10", x.loud(0, 10), 50);
    }

    private static void bears() {
        QuietTake x = DUE.told("shot a 3 40; shot b 1 90; bears = limit + second * 5 + which * 3 + day;");
        DUE.is("bears 0 0", x.bears(0, 0), 40);
        DUE.is("bears 0 2", x.bears(0, 2), 52);
        DUE.is("bears 1 0", x.bears(1, 0), 93);
        DUE.is("bears: second 3 of 3", x.bears(0, 3), -1);
        DUE.is("bears: second -1", x.bears(0, -1), -1);
        DUE.is("bears: shot 2", x.bears(2, 0), -1);
        DUE.is("bears: shot -1", x.bears(-1, 0), -1);
        x.waits(10);
        DUE.is("bears at day 12", x.bears(0, 2), 62);
        DUE.is("bears held to 99", x.bears(1, 0), 99);
        x = DUE.told("shot a 3 40; bears = limit - second * 30 + loud + age + lasts + far + stood;");
        x.waits(10);
        DUE.is("bears 10", x.bears(0, 1), 10);
        DUE.is("bears held to 0", x.bears(0, 2), 0);
    }

    public static void main(String[] args) {
        noises();
        paidNoises();
        shots();
        laws();
        dividedByZero();
        heards();
        lots();
        rustling();
        bears();
        DUE.end();
    }
}
