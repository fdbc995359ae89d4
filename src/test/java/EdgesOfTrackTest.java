/** Promises 33 to 35: what is TOLD of a track, at its bounds and just beyond them. */
public final class EdgesOfTrackTest {
    private static final Due DUE = new Due();

    /** 'how much NOISE (0 .. 99) there is in the n-th SECOND (0 .. 99) of a track made at a PLACE'. */
    private static void tells() {
        QuietTake x = DUE.told("clock c 0 1 1 9 0; place p 0; place q 0; place r 0; place s 0;");
        int[][] none = {{-1, 0, 0}, {4, 0, 0}, {0, -1, 0}, {0, 100, 0}, {0, 0, -1}, {0, 0, 100}};
        for (int[] a : none) {
            DUE.is("tell " + a[0] + ", " + a[1] + ", " + a[2], x.tell(a[0], a[1], a[2]), -1);
            DUE.is("none TOLD", x.count(11), 0);
        }
        int[][] fine = {{0, 0, 0}, {3, 0, 0}, {0, 99, 0}, {0, 0, 99}, {3, 99, 99}};
        for (int i = 0; i < fine.length; i++) {
            DUE.is("tell " + i, x.tell(fine[i][0], fine[i][1], fine[i][2]), i);
            DUE.is("TOLD", x.count(11), i + 1);
        }
        DUE.is("no PLACES", DUE.told("clock c 0 1 1 9 0;").tell(0, 0, 0), -1);
    }

    /** '20 at most, numbered from 0 on'; 'All that was TOLD is forgotten: how many there were.' */
    private static void twentyAtMost() {
        QuietTake x = DUE.told("clock c 0 1 1 9 0; place p 0;");
        DUE.is("none to forget", x.forget(), 0);
        for (int i = 0; i < 20; i++) {
            DUE.is("tell " + i, x.tell(0, i, 9), i);
        }
        DUE.is("a 21st", x.tell(0, 0, 8), -1);
        DUE.is("a 21st that is none", x.tell(1, 0, 8), -1);
        DUE.is("TOLD", x.count(11), 20);
        DUE.is("known by 20", x.when(20, -1), 1000);
        DUE.is("known by 21", x.when(21, -1), -1);
        DUE.is("forget", x.forget(), 20);
        DUE.is("forgotten", x.count(11), 0);
        DUE.is("known by 1", x.when(1, -1), -1);
        DUE.is("known by 0", x.when(0, -1), 1000);
        DUE.is("numbered from 0 on again", x.tell(0, 0, 8), 0);
        DUE.is("and looked at", x.when(1, -1), 0);
        DUE.is("one", x.forget(), 1);
    }

    /** 'KNOWN by k: the first k .. how many (i NONE), else the i-th; NONE: no such ones, not so many.' */
    private static void knownBy() {
        // From SECOND 875 on it is 3 at p, 1 at q and 1 at r.
        QuietTake x = DUE.told("clock a 500 1 1 1 0; clock b 750 1 1 2 0; clock c 875 1 1 3 0; place p 0;"
            + "place q 1; place r 2; hear = loud / (far + 1);");
        x.tell(0, 0, 3);
        x.tell(0, 1, 3);
        x.tell(0, 99, 3);
        x.tell(1, 0, 1);
        x.tell(2, 0, 1);
        x.tell(2, 0, 0);
        int[] many = {1000, 125, 125, 125, 125, 125, 0};
        for (int k = 0; k <= 6; k++) {
            DUE.is("how many by " + k, x.when(k, -1), many[k]);
            DUE.is("the first by " + k, x.when(k, 0), many[k] == 0 ? -1 : 1000 - many[k]);
            DUE.is("the last by " + k, x.when(k, many[k] - 1), many[k] == 0 ? 0 : 999);
            DUE.is("one more by " + k, x.when(k, many[k]), -1);
            DUE.is("i below NONE by " + k, x.when(k, -2), -1);
        }
        DUE.is("k 7 of 6", x.when(7, -1), -1);
        DUE.is("k 7 of 6, the first", x.when(7, 0), -1);
        DUE.is("k -1", x.when(-1, -1), -1);
        DUE.is("k -1, the first", x.when(-1, 0), -1);
        x = DUE.told("clock a 500 1 1 1 0; clock b 750 1 1 2 0; clock c 875 1 1 3 0; place p 0;");
        int[] noise = {1, 2, 3, 0};
        int[] begins = {250, 125, 125, 500};
        int[] first = {500, 750, 875, 0};
        for (int i = 0; i < 4; i++) {
            x.forget();
            x.tell(0, 0, noise[i]);
            DUE.is("how many for " + noise[i], x.when(1, -1), begins[i]);
            DUE.is("the first for " + noise[i], x.when(1, 0), first[i]);
            DUE.is("the last for " + noise[i], x.when(1, begins[i] - 1), first[i] + begins[i] - 1);
        }
    }

    /** 'SECONDS of the day (0 .. 999) with which the track may begin': it may end later. */
    private static void ofTheDay() {
        String text = "clock a 0 1 1 9 0; place p 0; hear = if day < %d then 0 else if day < %d then 7 else 0;";
        int[][] seconds = {{0, 0, 1, 0}, {999, 0, 1, 999}, {1000, 0, 0, -1}, {1000, 1, 1, 999}, {1000, 99, 1, 901},
            {1098, 99, 1, 999}, {1099, 99, 0, -1}, {98, 99, 0, -1}, {99, 99, 1, 0}};
        for (int[] s : seconds) {
            QuietTake x = DUE.told(String.format(text, s[0], s[0] + 1));
            x.tell(0, s[1], 7);
            DUE.is("SECOND " + s[0] + " as the " + s[1] + "-th: how many", x.when(1, -1), s[2]);
            DUE.is("SECOND " + s[0] + " as the " + s[1] + "-th: which", x.when(1, 0), s[3]);
        }
        // Whatever the SECOND is now.
        QuietTake x = DUE.told(String.format(text, 999, 1000));
        x.waits(300);
        x.tell(0, 0, 7);
        DUE.is("told later", x.when(1, 0), 999);
        x.waits(300);
        DUE.is("asked later", x.when(1, 0), 999);
    }

    /** 'nobody rustling, nobody paid'. */
    private static void nobody() {
        QuietTake x = DUE.told("clock a 0 1 1 9 0; place p 0; rustles = 100;");
        x.pay(0, 300);
        x.tell(0, 0, 9);
        x.tell(0, 0, 50);
        x.tell(0, 0, 0);
        DUE.is("9, as nobody is paid", x.when(1, -1), 1000);
        DUE.is("not 50, as nobody rustles", x.when(2, -1), 0);
        DUE.is("rustles now", x.loud(0, 0), 50);
        x = DUE.told("clock a 0 1 1 99 0; place p 0;");
        x.tell(0, 99, 99);
        DUE.is("as loud as can be", x.when(1, -1), 1000);
        x = DUE.told("place p 0;");
        x.tell(0, 99, 0);
        DUE.is("no NOISES", x.when(1, -1), 1000);
        x.tell(0, 99, 1);
        DUE.is("no NOISES, heard", x.when(2, -1), 0);
    }

    /** By chance: LOT 0 is of SECONDS 190, 277 by SEED 0, and of no other one till 400. */
    private static void byChance() {
        QuietTake x = DUE.told("chance c 1 20 30 0; place p 0; hear = loud + age;");
        x.tell(0, 0, 30);
        x.tell(0, 19, 49);
        DUE.is("the first begin", x.when(1, 0), 190);
        DUE.is("the second", x.when(1, 1), 277);
        DUE.is("to its last SECOND", x.when(2, 0), 190);
        x.forget();
        x.tell(0, 20, 50);
        DUE.is("and no longer", x.when(1, -1), 0);
    }

    public static void main(String[] args) {
        tells();
        twentyAtMost();
        knownBy();
        ofTheDay();
        nobody();
        byChance();
        DUE.end();
    }
}
