/** Promises 26 to 32: order, bribe, cellar, cheapest, breakOff, join, odds. */
public final class PlansTest {
    private static final Due DUE = new Due();
    /** It is 70 in SECONDS 2, 3, 4 of each ten and 40 from 300 to 304. */
    private static final String BUS = "clock bus 2 10 3 70 1; clock saw 300 999 5 40 2; place a 0;"
        + "shot s 4 30; shot t 2 69; shot u 6 99;";

    private static void order(QuietTake x, int... want) {
        for (int i = -1; i < want.length - 1; i++) {
            DUE.is("order " + i, x.order(i), want[i + 1]);
        }
        DUE.is("not so many", x.order(want.length - 1), -1);
        DUE.is("below NONE", x.order(-2), -1);
        DUE.is("the least int", x.order(Integer.MIN_VALUE), -1);
        DUE.is("the greatest int", x.order(Integer.MAX_VALUE), -1);
    }

    private static void orders() {
        QuietTake x = DUE.told(BUS);
        order(x, 12, 1, 2, 0);
        x.take(1);
        order(x, 10, 2, 0);
        x.take(2);
        x.take(0);
        order(x, 0);
        x = DUE.told(BUS + "shot v 1 99; shot w 1 99; shot x 1 99;");
        DUE.is("five of six", x.order(4) >= 0, true);
        DUE.is("no sixth", x.order(5), -1);
        x = DUE.told("place p 0; shot a 1 9; shot b 1 9; shot c 1 9; shot d 1 9; shot e 1 9; shot f 3 9;");
        order(x, 5, 0, 1, 2, 3, 4);
        x.take(2);
        order(x, 7, 0, 1, 3, 4, 5);
        x = DUE.told("clock c 0 1 1 50 0; place p 0; shot a 1 49; shot b 1 50;");
        DUE.is("none", x.order(-1), -2);
        DUE.is("none, a shot", x.order(0), -2);
        DUE.is("none, the last shot", x.order(1), -2);
        DUE.is("not so many, looked at first", x.order(2), -1);
        x = DUE.told("shot a 1 49; shot b 1 50;");
        DUE.is("no places", x.order(-1), -2);
        DUE.is("no places, a shot", x.order(1), -2);
        DUE.is("no places, not so many", x.order(2), -1);
        order(DUE.told("place p 0;"), 0);
    }

    private static void ordersByWaiting() {
        String noisy = "clock n 0 1 1 50 0; place p 0; shot a 1 0; shot b 1 0;";
        order(DUE.told(noisy + "bears = if which < 1 then day/300*99 else day/601*99;"), 602, 0, 1);
        DUE.is("301 of waiting, the first", DUE.told(noisy + "bears = day/301*99;").order(-1), -2);
        order(DUE.told(noisy + "bears = if which < 1 then day/299*99 else day/600*99;"), 601, 0, 1);
        DUE.is("301 of waiting, the next",
            DUE.told(noisy + "bears = if which < 1 then day/299*99 else day/601*99;").order(-1), -2);
        // a can be taken at 0 and from 300 on, b from 200 on, c from 520 on: a first would have c wait too long.
        QuietTake x = DUE.told(noisy + "shot c 1 0; bears = if which < 1 then (1-day)*99+day/300*9999*9 else "
            + "if which < 2 then day/200*99 else day/520*99;");
        order(x, 521, 1, 0, 2);
        DUE.is("cellar of it", x.cellar(520, 1), 4);
        DUE.is("cellar of all", x.cellar(521, 0), 0);
        // Five SHOTS, each as late as can be.
        x = DUE.told("clock n 0 1 1 50 0; place p 0; shot a 9 0; shot b 9 0; shot c 9 0; shot d 9 0; shot e 9 0;"
            + "bears = day/(300+which*309)*99;");
        order(x, 1545, 0, 1, 2, 3, 4);
        DUE.is("cellar of five", x.cellar(1545, 0), 0);
        DUE.is("cellar of four", x.cellar(1544, 1), 16);
    }

    private static void cellars() {
        QuietTake x = DUE.told(BUS);
        int[][] want = {{2000, 0, 0}, {12, 0, 0}, {11, 1, 1}, {8, 1, 1}, {7, 2, 3}, {6, 2, 3}, {5, 2, 5}, {2, 2, 5},
            {1, 3, 7}, {0, 3, 7}};
        for (int[] w : want) {
            DUE.is("cellar " + w[0] + ": how many", x.cellar(w[0], 0), w[1]);
            DUE.is("cellar " + w[0] + ": which", x.cellar(w[0], 1), w[2]);
        }
        DUE.is("cellar 2001", x.cellar(2001, 0), -1);
        DUE.is("cellar -1", x.cellar(-1, 0), -1);
        DUE.is("cellar what 2", x.cellar(5, 2), -1);
        DUE.is("cellar what -1", x.cellar(5, -1), -1);
        x.take(1);
        DUE.is("of those not done", x.cellar(6, 1), 1);
        DUE.is("none of those not done", x.cellar(0, 1), 5);
        x = DUE.told("clock c 0 1 1 50 0; place p 0; shot a 1 49; shot b 1 50;");
        DUE.is("one that never can be", x.cellar(2000, 1), 1);
        x = DUE.told("shot a 1 49;");
        DUE.is("no places", x.cellar(5, 0), -2);
        DUE.is("no places, no such n", x.cellar(2001, 0), -1);
        DUE.is("all done", DUE.told("place p 0;").cellar(0, 0), 0);
    }

    private static void bribes() {
        QuietTake x = DUE.told(BUS);
        DUE.is("whom", x.bribe(0, 0), 0);
        DUE.is("how much sooner", x.bribe(0, 1), 5);
        DUE.is("not sooner", x.bribe(1, 0), -2);
        DUE.is("not sooner, how much", x.bribe(1, 1), -2);
        DUE.is("no such shot", x.bribe(3, 0), -1);
        DUE.is("shot -1", x.bribe(-1, 0), -1);
        DUE.is("what 2", x.bribe(0, 2), -1);
        DUE.is("what -1", x.bribe(0, -1), -1);
        String always = "place p 0; shot s 9 9; clock n 0 1 1 50 99;";
        x = DUE.told(always + "coins 0;");
        DUE.is("it cannot now: whom", x.bribe(0, 0), 0);
        DUE.is("it cannot now: how much", x.bribe(0, 1), 301);
        DUE.is("two at once", DUE.told(always + "clock m 0 1 1 50 0;").bribe(0, 0), -2);
        x = DUE.told(always + "bears = day/300*99;");
        DUE.is("it can at 300: how much", x.bribe(0, 1), 300);
        x = DUE.told("place p 0; shot s 1 9; clock n 0 99 1 50 0;");
        DUE.is("sooner by 1", x.bribe(0, 1), 1);
        x = DUE.told("place p 0; shot s 1 0; clock n 0 1 1 1 0;");
        DUE.is("nothing at all is borne", x.bribe(0, 1), 301);
        x = DUE.told("place p 0; shot s 1 9; clock m 0 1 1 40 0; clock n 0 1 1 50 0;");
        DUE.is("the softer one is in the way too", x.bribe(0, 0), -2);
        // Paid for 300 SECONDS: a TAKE of 9 can begin at 291, not at 292.
        String wall = "clock wa 0 999 99 10 0; clock wb 99 999 99 10 0; clock wc 198 999 ";
        x = DUE.told(always + wall + "93 10 0;");
        DUE.is("paid to the last: whom", x.bribe(0, 0), 0);
        DUE.is("paid to the last: how much", x.bribe(0, 1), 10);
        DUE.is("not paid to the last", DUE.told(always + wall + "94 10 0;").bribe(0, 0), -2);
        // What is paid for longer already stays so: alike from SECOND 0 on, so that nothing is sooner.
        x = DUE.told("place p 0; shot s 9 9; clock n 0 1 1 50 0;");
        x.pay(0, 300);
        x.pay(0, 9);
        DUE.is("paid already", x.bribe(0, 0), -2);
        x = DUE.told("place p 0; shot s 2 9; clock a 0 9 8 50 0; clock b 1 9 7 40 0; clock c 0 20 1 30 0;");
        DUE.is("the one that leaves no two seconds", x.bribe(0, 0), 0);
        DUE.is("as if 301, not now", x.bribe(0, 1), 293);
        x = DUE.told("place p 0; shot s 2 9; clock a 3 9 7 50 0; clock b 0 999 1 1 0;");
        DUE.is("at once already", x.bribe(0, 0), -2);
        x = DUE.told("place p 0; shot s 3 9; clock a 2 9 2 50 0; clock b 2 9 1 40 0; clock c 3 9 1 50 0; rustles = 0;");
        DUE.is("more than one is in the way", x.bribe(0, 0), -2);
        x = DUE.told("place p 0; shot s 3 9; clock a 5 99 9 50 0; clock b 0 99 5 40 0; clock c 9 99 9 60 0;");
        DUE.is("the soonest of them", x.bribe(0, 0), 1);
        DUE.is("how much the soonest is", x.bribe(0, 1), 18);
        DUE.is("no places", DUE.told("clock a 0 1 1 50 0; shot s 1 1;").bribe(0, 0), -2);
    }

    private static void cheapest() {
        QuietTake x = DUE.told(BUS);
        DUE.is("now, coins", x.cheapest(0, 0), 4);
        DUE.is("now, whom", x.cheapest(0, 1), 1);
        DUE.is("t for nothing", x.cheapest(1, 0), 0);
        DUE.is("t by nobody", x.cheapest(1, 1), 0);
        DUE.is("no such shot", x.cheapest(3, 0), -1);
        DUE.is("shot -1", x.cheapest(-1, 0), -1);
        DUE.is("what 2", x.cheapest(0, 2), -1);
        DUE.is("what -1", x.cheapest(0, -1), -1);
        x.waits(5);
        DUE.is("behind the bus", x.cheapest(0, 0), 0);
        x = DUE.told("place p 0; shot s 5 20; clock a 0 9 1 21 99; clock b 1 9 1 20 1; clock c 4 9 1 99 3;"
            + "clock d 5 9 1 99 3; clock e 4 9 1 50 0; coins 0;");
        DUE.is("three of five", x.cheapest(0, 1), 21);
        DUE.is("whatever one has", x.cheapest(0, 0), 510);
        x = DUE.told("place p 0; shot s 4 20; clock a 0 9 1 20 9; clock b 1 9 1 60 2; clock c 2 9 1 60 3;"
            + "clock d 3 9 1 60 1; bears = limit + day * 20;");
        DUE.is("by what is borne when", x.cheapest(0, 1), 2);
        DUE.is("two for each second", x.cheapest(0, 0), 8);
        x = DUE.told("place p 0; shot s 5 49; rustles = (stood - 3) * 100;");
        DUE.is("rustling", x.cheapest(0, 0), -2);
        DUE.is("rustling, whom", x.cheapest(0, 1), -2);
        x = DUE.told("place p 0; shot s 5 50; clock a 0 1 1 51 1; rustles = 100;");
        DUE.is("rustling borne", x.cheapest(0, 0), 5);
        x.pay(0, 4);
        DUE.is("partly paid", x.cheapest(0, 0), 5);
        x.pay(0, 1);
        DUE.is("wholly paid", x.cheapest(0, 0), 0);
        x = DUE.told("shot s 5 50; clock a 0 1 1 51 1;");
        DUE.is("no places", x.cheapest(0, 0), -2);
        DUE.is("no places, no shot", x.cheapest(1, 0), -1);
    }

    private static void breakOffs() {
        QuietTake x = DUE.told(BUS);
        DUE.is("now", x.breakOff(0, 0), 2);
        DUE.is("in 3", x.breakOff(0, 3), 0);
        DUE.is("in 5", x.breakOff(0, 5), -2);
        DUE.is("in 299", x.breakOff(0, 299), 1);
        DUE.is("in 300", x.breakOff(0, 300), 0);
        DUE.is("in 301", x.breakOff(0, 301), -1);
        DUE.is("in -1", x.breakOff(0, -1), -1);
        DUE.is("no such shot", x.breakOff(3, 0), -1);
        DUE.is("shot -1", x.breakOff(-1, 0), -1);
        x = DUE.told("shot s 1 1;");
        DUE.is("no places", x.breakOff(0, 0), -2);
        DUE.is("no places, no such n", x.breakOff(0, 301), -1);
    }

    private static void joins() {
        QuietTake x = DUE.told(BUS);
        DUE.is("two takes", x.join(0), 2);
        DUE.is("one take", x.join(2), 1);
        x.take(0);
        DUE.is("one more", x.join(0), 1);
        x.take(0);
        DUE.is("done", x.join(0), 0);
        DUE.is("no such shot", x.join(3), -1);
        DUE.is("shot -1", x.join(-1), -1);
        DUE.is("twenty", DUE.told("clock a 0 999 19 50 0; place p 0; shot s 1 9;").join(0), 20);
        DUE.is("twenty-one", DUE.told("clock a 0 999 20 50 0; place p 0; shot s 1 9;").join(0), -2);
        DUE.is("twenty of nine",
            DUE.told("clock a 0 1 1 50 0; place p 0; shot s 9 9; bears = day/171*99;").join(0), 20);
        // Without PLACES there is no TAKE, however quiet it is.
        DUE.is("no places", DUE.told("shot s 2 99;").join(0), -2);
        DUE.is("no places, no shot", DUE.told("shot s 2 99;").join(1), -1);
    }

    private static void odds() {
        String chance = "chance a 50 1 60 0; place p 0; shot s 1 9; shot t 2 9; seed 77;";
        for (int n = 0; n <= 300; n += 100) {
            for (int s = 1; s <= 20; s++) {
                int one = 0;
                int two = 0;
                for (int seed = 77; seed < 77 + s; seed++) {
                    boolean quiet = PlainModel.lot(100, seed, 8 * n) >= 50;
                    one += quiet ? 1 : 0;
                    two += quiet && PlainModel.lot(100, seed, 8 * (n + 1)) >= 50 ? 1 : 0;
                }
                QuietTake x = DUE.told(chance);
                int now = x.loud(0, 0);
                DUE.is("odds of one second", x.odds(0, n, s), one);
                DUE.is("odds of two", x.odds(1, n, s), two);
                DUE.is("the seed stays", x.loud(0, 0), now);
            }
        }
        QuietTake x = DUE.told(chance);
        DUE.is("0 seeds", x.odds(0, 0, 0), -1);
        DUE.is("21 seeds", x.odds(0, 0, 21), -1);
        DUE.is("in 301", x.odds(0, 301, 1), -1);
        DUE.is("in -1", x.odds(0, -1, 1), -1);
        DUE.is("no such shot", x.odds(2, 0, 1), -1);
        DUE.is("shot -1", x.odds(-1, 0, 1), -1);
        x.pay(0, 300);
        DUE.is("paid", x.odds(1, 298, 20), 20);
        // Without PLACES there is no TAKE, however quiet it is.
        x = DUE.told("shot s 2 99;");
        DUE.is("no places", x.odds(0, 0, 5), 0);
        DUE.is("no places, no shot", x.odds(1, 0, 5), -1);
        DUE.is("no places, no such n", x.odds(0, 301, 5), -1);
        DUE.is("no places, no such s", x.odds(0, 0, 21), -1);
    }

    public static void main(String[] args) {
        orders();
        ordersByWaiting();
        cellars();
        bribes();
        cheapest();
        breakOffs();
        joins();
        odds();
        DUE.end();
    }
}
