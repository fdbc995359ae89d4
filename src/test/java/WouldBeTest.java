/** Promises 17 to 25: hole, holes, softest, next, loudest, peak, calmest, ours, best. */
public final class WouldBeTest {
    private static final Due DUE = new Due();
    /** At a it is 70 in SECONDS 2, 3, 4 of each ten and 40 from 300 to 304, at b 30 and 0, at c 0. */
    private static final String BUS = "clock bus 2 10 3 70 1; clock saw 300 999 5 40 2; place a 0; place b 2; place c 5;"
        + "shot s 4 30; shot t 2 69; shot u 6 99; hear = loud - far * 20; move 7;";

    /** A NOISE of 10 from SECOND 0 till the one told. */
    private static String wall(int last) {
        return "clock wa 0 999 99 10 0; clock wb 99 999 99 10 0; clock wc 198 999 99 10 0; clock wd 297 999 "
            + (last - 296) + " 10 0; place p 0; place q 1; shot s 9 9; shot t 1 9;";
    }

    private static void holes() {
        QuietTake x = DUE.told(BUS);
        DUE.is("hole of 2", x.hole(0, 2, 0), 0);
        DUE.is("hole of 3", x.hole(0, 3, 0), 5);
        DUE.is("hole of 7", x.hole(0, 7, 69), 5);
        DUE.is("hole of 8", x.hole(0, 8, 69), -2);
        DUE.is("hole of 30, bearing all", x.hole(0, 30, 70), 0);
        DUE.is("hole at b", x.hole(1, 30, 30), 0);
        DUE.is("no hole at b", x.hole(1, 30, 29), -2);
        DUE.is("hole at c", x.hole(2, 30, 0), 0);
        DUE.is("holes of 7", x.holes(0, 7, 69), 30);
        DUE.is("holes of 7, the saw too loud", x.holes(0, 7, 39), 29);
        DUE.is("holes of 1", x.holes(0, 1, 69), 210);
        DUE.is("holes of 8", x.holes(0, 8, 69), 0);
        DUE.is("holes at c", x.holes(2, 30, 0), 300);
        x.waits(6);
        DUE.is("hole of 6, later", x.hole(0, 6, 69), 0);
        DUE.is("hole of 7, later", x.hole(0, 7, 69), 9);
        int[][] none = {{3, 1, 1}, {-1, 1, 1}, {0, 0, 1}, {0, 31, 1}, {0, -1, 1}, {0, 1, -1}, {0, 1, 100}};
        for (int[] a : none) {
            DUE.is("no such hole", x.hole(a[0], a[1], a[2]), -1);
            DUE.is("no such holes", x.holes(a[0], a[1], a[2]), -1);
        }
        DUE.is("hole, limit 99", x.hole(0, 30, 99), 0);
        x = DUE.told(wall(299));
        DUE.is("hole at 300", x.hole(0, 30, 9), 300);
        DUE.is("holes till 299", x.holes(0, 1, 9), 0);
        DUE.is("hole at 300 in the wall", DUE.told(wall(300)).hole(0, 1, 9), -2);
        x = DUE.told(wall(298));
        DUE.is("hole at 299", x.hole(0, 30, 9), 299);
        DUE.is("holes at 299", x.holes(0, 30, 9), 1);
        x = DUE.told("place p 0; rustles = stood * 25 - 25;");
        DUE.is("hole, rustling", x.hole(0, 2, 0), 0);
        DUE.is("no hole, rustling", x.hole(0, 30, 49), -2);
        DUE.is("hole, bearing rustling", x.hole(0, 30, 50), 0);
    }

    private static void softest() {
        QuietTake x = DUE.told(BUS);
        DUE.is("softest 7", x.softest(0, 7, 0), 0);
        DUE.is("when", x.softest(0, 7, 1), 5);
        DUE.is("softest 2", x.softest(0, 2, 1), 0);
        DUE.is("softest 1", x.softest(0, 1, 0), 0);
        DUE.is("softest 8", x.softest(0, 8, 0), 70);
        DUE.is("of alike ones the first", x.softest(0, 8, 1), 0);
        DUE.is("softest at b", x.softest(1, 30, 0), 30);
        x.waits(4);
        DUE.is("softest at 1", x.softest(0, 7, 1), 1);
        x = DUE.told(wall(299));
        DUE.is("softest at 300", x.softest(0, 30, 1), 300);
        DUE.is("how much", x.softest(0, 30, 0), 0);
        x = DUE.told(wall(300));
        DUE.is("softest beyond 300", x.softest(0, 30, 1), 0);
        DUE.is("how much of it", x.softest(0, 30, 0), 10);
        x = DUE.told("clock c 0 1 1 99 0; place p 0;");
        DUE.is("as loud as can be", x.softest(0, 30, 0), 99);
        DUE.is("as loud as can be, when", x.softest(0, 30, 1), 0);
        x = DUE.told(wall(299));
        DUE.is("softest 0", x.softest(0, 0, 0), -1);
        DUE.is("softest 31", x.softest(0, 31, 0), -1);
        DUE.is("softest what 2", x.softest(0, 1, 2), -1);
        DUE.is("softest what -1", x.softest(0, 1, -1), -1);
        DUE.is("softest at no place", x.softest(2, 1, 0), -1);
        DUE.is("softest at place -1", x.softest(-1, 1, 0), -1);
    }

    private static void next() {
        QuietTake x = DUE.told(BUS);
        DUE.is("next 0", x.next(0), 2);
        DUE.is("next at 300", x.next(1), 300);
        DUE.is("no such noise", x.next(2), -1);
        DUE.is("noise -1", x.next(-1), -1);
        x.waits(3);
        DUE.is("next, on now", x.next(0), 0);
        x.pay(0, 20);
        DUE.is("next, paid till 23", x.next(0), 20);
        x.pay(0, 2);
        DUE.is("next, paid till 25", x.next(0), 29);
        DUE.is("next at 301", DUE.told("clock c 301 999 1 1 1;").next(0), -2);
        DUE.is("next by no chance", DUE.told("chance c 0 20 1 1;").next(0), -2);
        DUE.is("next by chance", DUE.told("chance c 100 1 1 1;").next(0), 0);
    }

    private static void loudest() {
        QuietTake x = DUE.told(BUS);
        DUE.is("the bus", x.loudest(0, 0), 90);
        DUE.is("the saw", x.loudest(1, 0), 0);
        DUE.is("not heard", x.loudest(0, 2), 0);
        x.waits(10);
        DUE.is("the saw later", x.loudest(1, 0), 2);
        DUE.is("the bus later", x.loudest(0, 0), 90);
        DUE.is("no such noise", x.loudest(2, 0), -1);
        DUE.is("noise -1", x.loudest(-1, 0), -1);
        DUE.is("no such place", x.loudest(0, 3), -1);
        DUE.is("place -1", x.loudest(0, -1), -1);
        x = DUE.told("clock a 0 2 1 20 0; clock b 0 1 1 20 0; clock c 0 3 1 20 0; place p 0; rustles = 100;");
        DUE.is("the first of alike ones", x.loudest(0, 0), 150);
        DUE.is("the next", x.loudest(1, 0), 150);
        DUE.is("never", x.loudest(2, 0), 0);
        x = DUE.told("clock a 299 999 1 5 0; clock b 300 999 1 5 0; place p 0;");
        DUE.is("in the 300th", x.loudest(0, 0), 1);
        DUE.is("behind it", x.loudest(1, 0), 0);
    }

    private static void peaks() {
        QuietTake x = DUE.told(BUS);
        DUE.is("peak", x.peak(0, 0), 70);
        DUE.is("when", x.peak(0, 1), 2);
        DUE.is("peak at b", x.peak(1, 0), 30);
        DUE.is("peak of nothing", x.peak(2, 0), 0);
        DUE.is("when nothing", x.peak(2, 1), 0);
        DUE.is("peak what 2", x.peak(0, 2), -1);
        DUE.is("peak what -1", x.peak(0, -1), -1);
        DUE.is("no such place", x.peak(3, 0), -1);
        DUE.is("place -1", x.peak(-1, 0), -1);
        x = DUE.told("clock a 299 999 1 5 0; clock b 300 999 1 8 0; place p 0;");
        DUE.is("in the 300th", x.peak(0, 0), 5);
        DUE.is("when in the 300th", x.peak(0, 1), 299);
        DUE.is("rustling", DUE.told("place p 0; rustles = 100;").peak(0, 0), 50);
    }

    private static void calmest() {
        QuietTake x = DUE.told(BUS);
        DUE.is("calmest 1", x.calmest(1), 0);
        DUE.is("calmest 2", x.calmest(2), 0);
        DUE.is("calmest 3", x.calmest(3), 2);
        DUE.is("calmest 300", x.calmest(300), 2);
        DUE.is("calmest 301", x.calmest(301), -1);
        DUE.is("calmest 0", x.calmest(0), -1);
        DUE.is("no places", DUE.told("clock c 0 1 1 1 1;").calmest(3), -2);
        DUE.is("no places, no such n", DUE.told("").calmest(301), -1);
        x = DUE.told("clock c 299 999 1 60 0; place p 0; place q 3; hear = loud - far * 10;");
        DUE.is("calmest 299", x.calmest(299), 0);
        DUE.is("calmest 300 by the last", x.calmest(300), 1);
        x = DUE.told("clock c 0 1 1 60 0; place p 3; place q 4; hear = loud - far * 10; rustles = 100;");
        DUE.is("alike by rustling", x.calmest(3), 0);
        DUE.is("as loud as can be", DUE.told("clock c 0 1 1 99 0; place p 3;").calmest(3), 0);
    }

    private static void ours() {
        String rustles = BUS + "rustles = 100;";
        QuietTake x = DUE.told(rustles);
        DUE.is("ours at a", x.ours(0), 210);
        DUE.is("ours at b", x.ours(1), 300);
        DUE.is("no such place", x.ours(3), -1);
        DUE.is("place -1", x.ours(-1), -1);
        DUE.is("none", DUE.told(BUS).ours(0), 0);
        DUE.is("no more than heard", DUE.told("clock c 0 1 1 50 0; place p 0; rustles = 100;").ours(0), 0);
        DUE.is("by 1 more", DUE.told("clock c 0 1 1 49 0; place p 0; rustles = 100;").ours(0), 300);
        x = DUE.told("place p 0; rustles = (stood - 9) * 100;");
        DUE.is("standing on", x.ours(0), 290);
        x.waits(4);
        DUE.is("standing on from 4", x.ours(0), 294);
    }

    private static void best() {
        QuietTake x = DUE.told(BUS);
        DUE.is("best of s", x.best(0, 0), 0);
        DUE.is("when", x.best(0, 1), 5);
        DUE.is("best of t", x.best(1, 1), 0);
        x = DUE.told(BUS + "move 2;");
        DUE.is("another place sooner", x.best(0, 0), 1);
        DUE.is("when there", x.best(0, 1), 2);
        x.moves(2);
        DUE.is("best where one is", x.best(0, 0), 2);
        DUE.is("best now", x.best(0, 1), 0);
        DUE.is("no such shot", x.best(3, 0), -1);
        DUE.is("shot -1", x.best(-1, 0), -1);
        DUE.is("what 2", x.best(0, 2), -1);
        DUE.is("what -1", x.best(0, -1), -1);
        x = DUE.told(BUS + "move 0;");
        DUE.is("of alike ones the first", x.best(1, 0), 0);
        x.waits(2);
        DUE.is("in no time", x.best(0, 0), 1);
        x = DUE.told(wall(299) + "move 99;");
        DUE.is("at 300", x.best(0, 1), 300);
        DUE.is("the first at 300", x.best(0, 0), 0);
        x.moves(1);
        DUE.is("alike, the first, not where one is", x.best(0, 0), 0);
        DUE.is("when alike", x.best(0, 1), 201);
        x = DUE.told(wall(300));
        DUE.is("none at 301", x.best(0, 0), -2);
        DUE.is("none, when", x.best(0, 1), -2);
        DUE.is("no places", DUE.told("shot s 1 1;").best(0, 0), -2);
    }

    public static void main(String[] args) {
        holes();
        softest();
        next();
        loudest();
        peaks();
        calmest();
        ours();
        best();
        DUE.end();
    }
}
