/** Promises 17 to 25: what would be, at the bounds of how far one looks and just beyond them. */
public final class EdgesOfWouldBeTest {
    private static final Due DUE = new Due();

    /** NOISE of 10 in each SECOND till the last one told (98 and more), so that the first quiet one is behind it. */
    private static String wall(int last) {
        StringBuilder text = new StringBuilder();
        for (int from = 0, i = 0; from <= last; from += 99, i++) {
            text.append("clock w").append((char) ('a' + i)).append(' ').append(from).append(" 999 ")
                .append(Math.min(99, last + 1 - from)).append(" 10 0;");
        }
        return text.toString();
    }

    private static QuietTake walled(int last, String more) {
        return DUE.told(wall(last) + "place p 0; shot s 1 9; shot t 9 9;" + more);
    }

    /** A NOISE of 20 in one SECOND alone, over one of 10 in all. */
    private static QuietTake spike(int second) {
        return DUE.told("clock a 0 1 1 10 0; clock b " + second + " 999 1 20 0; place p 0; place q 0;");
    }

    /** One quiet SECOND, all others are 10. */
    private static QuietTake gap(int second, String more) {
        return DUE.told("clock a 0 1 1 10 0; place p 0; place q 1; shot s 1 9; hear = if day < " + second
            + " then loud else if day < " + second + " + 1 then 0 else loud;" + more);
    }

    /** 'behind how many SECONDS (0 .. 300) the first n on end begin of which none has more NOISE'. */
    private static void holes() {
        for (int n : new int[] {1, 2, 29, 30}) {
            DUE.is("hole of " + n + " at 0", DUE.told("place p 0;").hole(0, n, 0), 0);
            DUE.is("hole of " + n + " at 299", walled(298, "").hole(0, n, 9), 299);
            DUE.is("hole of " + n + " at 300", walled(299, "").hole(0, n, 9), 300);
            DUE.is("hole of " + n + " at 301", walled(300, "").hole(0, n, 9), -2);
        }
        DUE.is("hole of 0", walled(98, "").hole(0, 0, 9), -1);
        DUE.is("hole of 31", walled(98, "").hole(0, 31, 9), -1);
        DUE.is("of which none has more", walled(98, "").hole(0, 1, 10), 0);
        DUE.is("of which one has more", walled(98, "").hole(0, 1, 9), 99);
        DUE.is("limit 0", walled(98, "").hole(0, 1, 0), 99);
        DUE.is("limit -1", walled(98, "").hole(0, 1, -1), -1);
        DUE.is("limit 99", walled(98, "").hole(0, 1, 99), 0);
        DUE.is("limit 100", walled(98, "").hole(0, 1, 100), -1);
        DUE.is("the last place", walled(98, "place q 0;").hole(1, 1, 9), 99);
        DUE.is("one more place", walled(98, "place q 0;").hole(2, 1, 9), -1);
        DUE.is("place -1", walled(98, "").hole(-1, 1, 9), -1);
        // All n of them, to the last one: 30 that begin at 300 end with 329.
        QuietTake x = DUE.told(wall(299) + "clock z 329 999 1 10 0; place p 0;");
        DUE.is("29 before the next one", x.hole(0, 29, 9), 300);
        DUE.is("30 with it", x.hole(0, 30, 9), -2);
        x = DUE.told(wall(299) + "clock z 330 999 1 10 0; place p 0;");
        DUE.is("30 without it", x.hole(0, 30, 9), 300);
        // On end: a loud one among them parts them.
        x = DUE.told("clock a 3 999 1 10 0; clock b 8 999 1 10 0; place p 0;");
        DUE.is("3 on end", x.hole(0, 3, 9), 0);
        DUE.is("4 on end", x.hole(0, 4, 9), 4);
        DUE.is("5 on end", x.hole(0, 5, 9), 9);
        x.waits(1);
        DUE.is("3 on end, later", x.hole(0, 3, 9), 3);
        // From now on, not from SECOND 0.
        x = walled(299, "");
        x.waits(299);
        DUE.is("1 later", x.hole(0, 30, 9), 1);
        x.waits(1);
        DUE.is("now", x.hole(0, 30, 9), 0);
        // RUSTLING as if they stood on.
        x = DUE.told("place p 0; rustles = (stood - 29) * 100;");
        DUE.is("30 without rustling", x.hole(0, 30, 49), 0);
        x.waits(1);
        DUE.is("30 with it", x.hole(0, 30, 49), -2);
        DUE.is("30 with it, borne", x.hole(0, 30, 50), 0);
        DUE.is("29 without", x.hole(0, 29, 49), 0);
    }

    /** 'how many such begins there are in the next 300'; '(of begins behind 0 .. 299 SECONDS)'. */
    private static void manyHoles() {
        for (int n : new int[] {1, 2, 30}) {
            DUE.is("all " + n, DUE.told("place p 0;").holes(0, n, 0), 300);
            DUE.is("from 298 " + n, walled(297, "").holes(0, n, 9), 2);
            DUE.is("from 299 " + n, walled(298, "").holes(0, n, 9), 1);
            DUE.is("from 300 " + n, walled(299, "").holes(0, n, 9), 0);
        }
        DUE.is("the first alone", gap(0, "").holes(0, 1, 9), 1);
        DUE.is("the last alone", gap(299, "").holes(0, 1, 9), 1);
        DUE.is("one beyond", gap(300, "").holes(0, 1, 9), 0);
        DUE.is("two on end", gap(299, "").holes(0, 2, 9), 0);
        // 30 that begin at 299 end with 328.
        DUE.is("328 loud", DUE.told(wall(298) + "clock z 328 999 1 10 0; place p 0;").holes(0, 30, 9), 0);
        DUE.is("329 loud", DUE.told(wall(298) + "clock z 329 999 1 10 0; place p 0;").holes(0, 30, 9), 1);
        QuietTake x = walled(98, "place q 0;");
        DUE.is("n 0", x.holes(0, 0, 9), -1);
        DUE.is("n 31", x.holes(0, 31, 9), -1);
        DUE.is("limit -1", x.holes(0, 1, -1), -1);
        DUE.is("limit 0", x.holes(0, 1, 0), 201);
        DUE.is("limit 9", x.holes(0, 1, 9), 201);
        DUE.is("limit 10", x.holes(0, 1, 10), 300);
        DUE.is("limit 99", x.holes(0, 1, 99), 300);
        DUE.is("limit 100", x.holes(0, 1, 100), -1);
        DUE.is("the last place", x.holes(1, 1, 9), 201);
        DUE.is("one more place", x.holes(2, 1, 9), -1);
        DUE.is("place -1", x.holes(-1, 1, 9), -1);
        x.waits(98);
        DUE.is("later", x.holes(0, 1, 9), 299);
    }

    private static void softest(String what, QuietTake x, int n, int much, int when) {
        DUE.is(what + ": how much", x.softest(0, n, 0), much);
        DUE.is(what + ": when", x.softest(0, n, 1), when);
    }

    /** 'of all n on end that begin behind 0 .. 300 SECONDS those of which the greatest NOISE is least; .. the first'. */
    private static void softests() {
        for (int n : new int[] {1, 30}) {
            softest("at 299, " + n, walled(298, ""), n, 0, 299);
            softest("at 300, " + n, walled(299, ""), n, 0, 300);
            softest("at 301, " + n, walled(300, ""), n, 10, 0);
            softest("nothing at all, " + n, DUE.told("place p 0;"), n, 0, 0);
            softest("as loud as can be, " + n, DUE.told("clock c 0 1 1 99 0; place p 0;"), n, 99, 0);
        }
        softest("the last of 30 is 329", DUE.told(wall(299) + "clock z 329 999 1 9 0; place p 0;"), 30, 9, 300);
        softest("330 is none", DUE.told(wall(299) + "clock z 330 999 1 9 0; place p 0;"), 30, 0, 300);
        softest("98 once", DUE.told("clock c 0 1 1 99 0; place p 0; hear = if day < 8 then 99 else if day < 9 then 98 else 99;"),
            1, 98, 8);
        softest("of alike ones the first", DUE.told("clock c 0 3 2 7 0; place p 0;"), 1, 0, 2);
        softest("of alike ones the first, 2", DUE.told("clock c 0 3 2 7 0; place p 0;"), 2, 7, 0);
        QuietTake x = walled(98, "place q 0;");
        DUE.is("n 0", x.softest(0, 0, 0), -1);
        DUE.is("n 31", x.softest(0, 31, 0), -1);
        DUE.is("what 1", x.softest(0, 1, 1), 99);
        DUE.is("what 2", x.softest(0, 1, 2), -1);
        DUE.is("what -1", x.softest(0, 1, -1), -1);
        DUE.is("the last place", x.softest(1, 1, 1), 99);
        DUE.is("one more place", x.softest(2, 1, 1), -1);
        DUE.is("place -1", x.softest(-1, 1, 1), -1);
    }

    /** 'behind how many SECONDS (0 .. 300) a NOISE is ON for the first time'; '-2: not; NONE: no such NOISE.' */
    private static void nexts() {
        int[] first = {0, 1, 299, 300, 301, 999};
        int[] want = {0, 1, 299, 300, -2, -2};
        for (int i = 0; i < first.length; i++) {
            // Without PLACES too: it is ON whether or not somebody hears it.
            DUE.is("first " + first[i], DUE.told("clock c " + first[i] + " 999 1 0 0;").next(0), want[i]);
        }
        QuietTake x = DUE.told("clock c 301 999 1 0 0; clock d 0 1 1 0 0;");
        x.waits(1);
        DUE.is("301 from 1 on", x.next(0), 300);
        DUE.is("the last noise", x.next(1), 0);
        DUE.is("one more", x.next(2), -1);
        DUE.is("one less", x.next(-1), -1);
        x.pay(1, 300);
        DUE.is("paid for 300", x.next(1), 300);
        x.pay(1, 1);
        DUE.is("paid for 301", x.next(1), -2);
        // LOT 0 is of SECONDS 190 and 277 by SEED 0.
        x = DUE.told("chance c 1 1 0 0;");
        DUE.is("by chance", x.next(0), 190);
        x.waits(191);
        DUE.is("by chance, the next", x.next(0), 86);
        DUE.is("by no chance", DUE.told("chance c 0 20 0 0;").next(0), -2);
        DUE.is("no noises", DUE.told("place p 0;").next(0), -1);
    }

    /** 'in how many of the next 300 SECONDS .. more than 0, and more than all others (of alike ones the first)'. */
    private static void loudests() {
        DUE.is("in all", DUE.told("clock c 0 1 1 1 0; place p 0;").loudest(0, 0), 300);
        DUE.is("not more than 0", DUE.told("clock c 0 1 1 0 0; place p 0;").loudest(0, 0), 0);
        int[] second = {0, 299, 300};
        int[] want = {1, 1, 0};
        for (int i = 0; i < 3; i++) {
            QuietTake x = spike(second[i]);
            DUE.is("the louder one at " + second[i], x.loudest(1, 0), want[i]);
            DUE.is("the other one", x.loudest(0, 0), 300 - want[i]);
        }
        QuietTake x = DUE.told("clock a 0 1 1 5 0; clock b 0 1 1 5 0; clock c 0 1 1 6 0; clock d 0 2 1 6 0; place p 0;");
        int[] led = {0, 0, 300, 0};
        for (int noise = 0; noise < 4; noise++) {
            DUE.is("alike: " + noise, x.loudest(noise, 0), led[noise]);
        }
        x.pay(2, 10);
        DUE.is("paid for 10", x.loudest(2, 0), 290);
        DUE.is("its next, every other", x.loudest(3, 0), 5);
        DUE.is("the first of the others", x.loudest(0, 0), 5);
        DUE.is("the second of the others", x.loudest(1, 0), 0);
        DUE.is("one more noise", x.loudest(4, 0), -1);
        DUE.is("noise -1", x.loudest(-1, 0), -1);
        DUE.is("one more place", x.loudest(0, 1), -1);
        DUE.is("place -1", x.loudest(0, -1), -1);
        DUE.is("rustling is no NOISE of theirs",
            DUE.told("clock c 0 1 1 1 0; place p 0; rustles = 100;").loudest(0, 0), 300);
    }

    /** 'the greatest NOISE of the next 300 SECONDS; behind how many SECONDS it is for the first time'. */
    private static void peaks() {
        int[] second = {0, 1, 299, 300};
        int[] much = {20, 20, 20, 10};
        int[] when = {0, 1, 299, 0};
        for (int i = 0; i < second.length; i++) {
            QuietTake x = spike(second[i]);
            DUE.is("much, spike at " + second[i], x.peak(0, 0), much[i]);
            DUE.is("when, spike at " + second[i], x.peak(0, 1), when[i]);
        }
        QuietTake x = spike(300);
        x.waits(1);
        DUE.is("1 later", x.peak(0, 1), 299);
        DUE.is("what 2", x.peak(0, 2), -1);
        DUE.is("what -1", x.peak(0, -1), -1);
        DUE.is("the last place", x.peak(1, 0), 20);
        DUE.is("one more place", x.peak(2, 0), -1);
        DUE.is("place -1", x.peak(-1, 0), -1);
        x = DUE.told("clock c 4 5 1 99 0; place p 0;");
        DUE.is("as loud as can be", x.peak(0, 0), 99);
        DUE.is("for the first time", x.peak(0, 1), 4);
        x = DUE.told("clock c 0 1 1 98 0; clock d 9 999 1 99 0; place p 0;");
        DUE.is("98, then as loud as can be", x.peak(0, 0), 99);
        DUE.is("98, then as loud as can be: when", x.peak(0, 1), 9);
        x = DUE.told("place p 0; rustles = (stood - 298) * 100;");
        DUE.is("rustling in 299", x.peak(0, 0) * 1000 + x.peak(0, 1), 50299);
        x = DUE.told("place p 0; rustles = (stood - 299) * 100;");
        DUE.is("rustling in 300", x.peak(0, 0) * 1000 + x.peak(0, 1), 0);
    }

    /** 'CALMEST for n SECONDS (1 .. 300): the PLACE at which the greatest NOISE of these is least; .. the first.' */
    private static void calmests() {
        String places = "place p 0; place q 1; place r 2; place s 1; hear = loud - far * 10;";
        for (int n : new int[] {1, 2, 299, 300}) {
            QuietTake x = DUE.told("clock a " + (n - 1) + " 999 1 30 0;" + places);
            DUE.is("the last of " + n + " counts", x.calmest(n), 2);
            if (n > 1) {
                DUE.is("not among " + (n - 1), x.calmest(n - 1), 0);
            }
            x = DUE.told("clock a " + (n - 1) + " 999 1 10 0;" + places);
            DUE.is("of alike ones the first, " + n, x.calmest(n), 1);
        }
        QuietTake x = DUE.told("clock a 300 999 1 30 0;" + places);
        DUE.is("300 is none of 300", x.calmest(300), 0);
        DUE.is("0", x.calmest(0), -1);
        DUE.is("301", x.calmest(301), -1);
        DUE.is("-1", x.calmest(-1), -1);
        x = DUE.told("clock a 0 1 1 99 0; place p 0; place q 0;");
        DUE.is("all as loud as can be", x.calmest(300), 0);
        x = DUE.told("clock a 0 1 1 99 0; place p 0; place q 1; hear = loud - far;");
        DUE.is("all but one", x.calmest(300), 1);
        x = DUE.told("clock a 0 1 1 40 0;");
        DUE.is("no PLACES", x.calmest(1), -2);
        DUE.is("no PLACES, no such n", x.calmest(0), -1);
        DUE.is("no PLACES, no such n either", x.calmest(301), -1);
    }

    /** 'in how many of the next 300 SECONDS there is RUSTLING that is more than all that is HEARD at a PLACE'. */
    private static void ours() {
        for (int stood : new int[] {0, 1, 298, 299}) {
            String text = "place p 0; place q 0; rustles = (stood - " + stood + ") * 100;";
            DUE.is("behind " + stood, DUE.told(text).ours(0), 299 - stood);
        }
        DUE.is("in all", DUE.told("place p 0; rustles = 100;").ours(0), 300);
        for (int loud : new int[] {0, 49, 50, 51}) {
            QuietTake x = DUE.told("clock c 0 1 1 " + loud + " 0; place p 0; place q 1; hear = loud-far; rustles = 100;");
            DUE.is("heard " + loud, x.ours(0), loud < 50 ? 300 : 0);
            DUE.is("heard " + loud + " farther off", x.ours(1), loud < 51 ? 300 : 0);
            DUE.is("one more place", x.ours(2), -1);
            DUE.is("place -1", x.ours(-1), -1);
        }
        QuietTake x = DUE.told("clock b 299 999 1 50 0; clock c 300 999 1 50 0; place p 0; rustles = 100;");
        DUE.is("heard in 299 and 300", x.ours(0), 299);
        DUE.is("no PLACES", DUE.told("rustles = 100;").ours(0), -1);
    }

    /** 'the PLACE at which a GOOD TAKE of it can begin soonest (.. 300 SECONDS at most, MOVE among them)'. */
    private static void bests() {
        for (int shot = 0; shot < 2; shot++) {
            DUE.is("here at 299", walled(298, "").best(shot, 1), 299);
            DUE.is("here at 300", walled(299, "").best(shot, 1), 300);
            DUE.is("here at 300, where", walled(299, "").best(shot, 0), 0);
            DUE.is("here at 301", walled(300, "").best(shot, 1), -2);
            DUE.is("here at 301, where", walled(300, "").best(shot, 0), -2);
            // All of a TAKE, to its last SECOND: 9 that begin at 300 end with 308.
            QuietTake x = DUE.told(wall(299) + "clock z 308 999 1 10 0; place p 0; shot s 1 9; shot t 9 9; shot u 8 9;");
            DUE.is("308 loud", x.best(shot, 1), shot == 0 ? 300 : -2);
            DUE.is("308 loud, of 8", x.best(2, 1), 300);
        }
        // At the other PLACE no sooner than MOVE, and as MOVE is over.
        String there = "clock a 0 1 1 10 0; place p 0; place q 1; shot s 1 9; move 7;";
        String[] law = {"if far<1 then 10 else (day-5)*(day-5)*10", "if far<1 then 10 else (day-6)*(day-6)*10",
            "if far<1 then 10 else (day-7)*(day-7)*10", "if far<1 then 10 else (day-300)*(day-300)*10",
            "if far<1 then 10 else (day-301)*(day-301)*10"};
        int[] when = {-2, -2, 7, 300, -2};
        for (int i = 0; i < law.length; i++) {
            QuietTake x = DUE.told(there + "hear = " + law[i] + ";");
            DUE.is("there, when " + i, x.best(0, 1), when[i]);
            DUE.is("there, where " + i, x.best(0, 0), when[i] < 0 ? -2 : 1);
        }
        // Alike: the first, be it the one where one is or not; sooner by 1: that one.
        for (int here = 6; here <= 8; here++) {
            QuietTake x = DUE.told(there + "place r 1; hear = if far<1 then (" + here + "-day)*10 else 0;");
            DUE.is("here at " + here + ": when", x.best(0, 1), Math.min(7, here));
            DUE.is("here at " + here + ": where", x.best(0, 0), here <= 7 ? 0 : 1);
            x.moves(2);
            x.undo();
            DUE.is("undone: where", x.best(0, 0), here <= 7 ? 0 : 1);
        }
        QuietTake x = DUE.told("place p 0; place q 0; shot s 1 9; move 0;");
        x.moves(1);
        DUE.is("no time to the first", x.best(0, 0), 0);
        x = DUE.told("place p 0; place q 0; shot s 1 9; move 1;");
        x.moves(1);
        DUE.is("1 to the first", x.best(0, 0), 1);
    }

    /** RUSTLING as if they stood on, a MOVE too; 'of a SHOT: no such ones'. */
    private static void bestsRefused() {
        QuietTake x = DUE.told("place p 0; place q 0; shot s 1 9; rustles = (5 - stood) * 100; move 7;");
        DUE.is("till they stood 5", x.best(0, 1), 5);
        x = DUE.told("clock a 0 1 1 10 0; place p 0; place q 9; shot s 1 9; hear = loud - far * 2; move 7;"
            + "rustles = (stood - 7) * 100;");
        DUE.is("a MOVE of 7, stood 7", x.best(0, 1), 7);
        x.waits(1);
        DUE.is("a MOVE of 7, stood 8", x.best(0, 1), -2);
        DUE.is("what 2", x.best(0, 2), -1);
        DUE.is("what -1", x.best(0, -1), -1);
        DUE.is("one more shot", x.best(1, 0), -1);
        DUE.is("shot -1", x.best(-1, 0), -1);
        x = DUE.told("shot s 1 9;");
        DUE.is("no PLACES", x.best(0, 0), -2);
        DUE.is("no PLACES, when", x.best(0, 1), -2);
        DUE.is("no PLACES, no such SHOT", x.best(1, 0), -1);
        DUE.is("no PLACES, no such what", x.best(0, 2), -1);
    }

    public static void main(String[] args) {
        holes();
        manyHoles();
        softests();
        nexts();
        loudests();
        peaks();
        calmests();
        ours();
        bests();
        bestsRefused();
        DUE.end();
    }
}
