/** Promises 26 to 32: order, bribe, cellar, cheapest, breakOff, join, odds, at their bounds and just beyond them. */
public final class EdgesOfPlansTest {
    private static final Due DUE = new Due();
    /** NOISE of 50 at all times. */
    private static final String NOISY = "clock n 0 1 1 50 0; place p 0;";

    private static String shots(int many, int length, int limit) {
        StringBuilder text = new StringBuilder();
        for (int i = 0; i < many; i++) {
            text.append("shot s").append((char) ('a' + i)).append(' ').append(length).append(' ').append(limit)
                .append(';');
        }
        return text.toString();
    }

    private static void order(String what, QuietTake x, int... want) {
        DUE.is(what + ": i -2", x.order(-2), -1);
        for (int i = -1; i < want.length - 1; i++) {
            DUE.is(what + ": i " + i, x.order(i), want[i + 1]);
        }
        DUE.is(what + ": one more", x.order(want.length - 1), -1);
    }

    /** 'SHOTS not yet DONE, 5 at most (the first ones)'; '0: all are DONE'; 'NONE: not so many, i below NONE'. */
    private static void fiveAtMost() {
        order("none", DUE.told("place p 0;"), 0);
        order("one", DUE.told("place p 0;" + shots(1, 2, 0)), 2, 0);
        order("four", DUE.told("place p 0;" + shots(4, 2, 0)), 8, 0, 1, 2, 3);
        order("five", DUE.told("place p 0;" + shots(5, 2, 0)), 10, 0, 1, 2, 3, 4);
        order("six", DUE.told("place p 0;" + shots(6, 2, 0)), 10, 0, 1, 2, 3, 4);
        for (int done = 0; done < 6; done++) {
            QuietTake x = DUE.told("place p 0;" + shots(6, 2, 0));
            DUE.is("take", x.take(done), 3);
            int[] want = new int[6];
            want[0] = 10;
            for (int i = 1; i < 6; i++) {
                want[i] = i - 1 < done ? i - 1 : i;
            }
            order("but " + done, x, want);
        }
        QuietTake x = DUE.told("place p 0;" + shots(6, 1, 0));
        for (int shot = 0; shot < 6; shot++) {
            x.take(shot);
        }
        order("all done", x, 0);
        // One that is JOINED but not DONE is taken wholly.
        x = DUE.told("clock c 1 99 1 50 0; place p 0; shot s 2 9;");
        DUE.is("half of it", x.take(0), 1);
        order("half done", x, 2, 0);
    }

    /** 'each 300 SECONDS of waiting at most': the first from now on, the others from the end of the one ahead. */
    private static void waitingAtMost() {
        for (int length : new int[] {1, 9}) {
            String two = NOISY + shots(2, length, 0)
                + "bears = if which < 1 then (day + 1 - %d) * 99 else (day + 1 - %d) * 99;";
            order("at 0 and 300", DUE.told(String.format(two, 0, 300 + length)), 300 + 2 * length, 0, 1);
            order("at 0 and 301", DUE.told(String.format(two, 0, 301 + length)), -2, -2, -2);
            order("at 300", DUE.told(String.format(two, 300, 300 + length)), 300 + 2 * length, 0, 1);
            order("at 301", DUE.told(String.format(two, 301, 301 + length)), -2, -2, -2);
            order("at 300, then 300", DUE.told(String.format(two, 300, 600 + length)), 600 + 2 * length, 0, 1);
            order("at 300, then 301", DUE.told(String.format(two, 300, 601 + length)), -2, -2, -2);
        }
        // From now on, and not from SECOND 0.
        QuietTake x = DUE.told(NOISY + shots(1, 1, 0) + "bears = (day-300)*99;");
        DUE.is("301 from 0 on", x.order(-1), -2);
        x.waits(1);
        DUE.is("301 from 1 on", x.order(-1), 301);
        // As late as five can be: each 9 long, each 300 behind the one ahead.
        String five = NOISY + shots(5, 9, 0);
        order("five, each 300", DUE.told(five + "bears = day/(300+which*309)*99;"), 1545, 0, 1, 2, 3, 4);
        String late = five + "bears = if day < %d then day/(300+which*309)*99 else 0;";
        order("five, all but the last SECOND", DUE.told(String.format(late, 1544)), -2, -2, -2, -2, -2, -2);
        order("five, to the last SECOND", DUE.told(String.format(late, 1545)), 1545, 0, 1, 2, 3, 4);
        order("five, the last 301", DUE.told(five + "bears = day/(300+which*309+which/4)*99;"), -2, -2, -2, -2, -2, -2);
    }

    /** 'so that the last one ends soonest; of alike ones the first by the first SHOT, then the next one's'. */
    private static void ofAlikeOrders() {
        order("all alike", DUE.told("place p 0;" + shots(3, 1, 0)), 3, 0, 1, 2);
        // Loud at 1, 2: the one of LONG 1 first, and the others as they stand behind it.
        QuietTake x = DUE.told("clock c 1 99 2 50 0; place p 0; shot a 2 9; shot b 2 9; shot d 1 9;");
        order("the short one first", x, 7, 2, 0, 1);
        x = DUE.told("clock c 1 99 2 50 0; place p 0; shot a 1 9; shot b 2 9; shot d 1 9;");
        order("a short one first", x, 6, 0, 1, 2);
        // Sooner by 1 is sooner.
        x = DUE.told("clock c 3 99 1 50 0; place p 0; shot a 2 9; shot b 3 9;");
        order("sooner by 1", x, 6, 1, 0);
        x = DUE.told("clock c 3 99 1 50 0; place p 0; shot a 3 9; shot b 2 9;");
        order("sooner by 1 as they stand", x, 6, 0, 1);
    }

    /** '-2: there is none, no PLACES; NONE (looked at first)'. */
    private static void noOrder() {
        order("none", DUE.told(NOISY + shots(2, 1, 49)), -2, -2, -2);
        order("one of two", DUE.told(NOISY + "shot a 1 50; shot b 1 49;"), -2, -2, -2);
        order("both", DUE.told(NOISY + "shot a 1 50; shot b 1 50;"), 2, 0, 1);
        order("no PLACES", DUE.told(shots(6, 1, 99)), -2, -2, -2, -2, -2, -2);
        order("no PLACES, no SHOTS", DUE.told(""), -2);
        QuietTake x = DUE.told("clock c 0 1 1 50 0; place p 9; place q 0; shot a 1 49; hear = loud - far;");
        order("where one is", x, 1, 0);
        x.moves(1);
        order("where one is not", x, -2, -2);
    }

    private static void cellar(String what, QuietTake x, int n, int many, int which) {
        DUE.is(what + " in " + n + ": how many", x.cellar(n, 0), many);
        DUE.is(what + " in " + n + ": which", x.cellar(n, 1), which);
    }

    /** 'the fewest SHOTS .. that must be left out, so that the last one of the others ends behind n .. or sooner'. */
    private static void cellars() {
        QuietTake x = DUE.told("place p 0; shot a 3 0; shot b 2 0; shot c 1 0; shot d 9 0; shot e 9 0; shot f 9 0;");
        int[][] want = {{24, 0, 0}, {23, 1, 1}, {21, 1, 1}, {20, 1, 8}, {15, 1, 8}, {14, 2, 9}, {12, 2, 9}, {11, 2, 24},
            {6, 2, 24}, {5, 3, 25}, {3, 3, 25}, {2, 4, 27}, {1, 4, 27}, {0, 5, 31}};
        for (int[] w : want) {
            cellar("the first five", x, w[0], w[1], w[2]);
        }
        x = DUE.told("place p 0;" + shots(6, 1, 0));
        cellar("six, the first five", x, 5, 0, 0);
        cellar("six, of alike ones the least", x, 4, 1, 1);
        cellar("six, of alike ones the least", x, 1, 4, 15);
        cellar("six, none", x, 0, 5, 31);
        x.take(0);
        cellar("five that are left", x, 5, 0, 0);
        cellar("five that are left", x, 4, 1, 2);
        cellar("five that are left, none", x, 0, 5, 62);
        x = DUE.told("place p 0; shot a 1 0;");
        x.take(0);
        cellar("all done", x, 0, 0, 0);
        cellar("no SHOTS", DUE.told("place p 0;"), 0, 0, 0);
        cellar("never", DUE.told(NOISY + shots(5, 1, 49)), 2000, 5, 31);
        cellar("never but one", DUE.told(NOISY + shots(4, 1, 49) + "shot z 1 50;"), 2000, 4, 15);
        cellar("never but one", DUE.told(NOISY + shots(4, 1, 49) + "shot z 1 50;"), 0, 5, 31);
    }

    /** 'n SECONDS (0 .. 2000)'; '-2: no PLACES; NONE: no such ones.' */
    private static void cellarsRefused() {
        QuietTake x = DUE.told("place p 0; shot a 1 0;");
        DUE.is("n 0", x.cellar(0, 0), 1);
        DUE.is("n -1", x.cellar(-1, 0), -1);
        DUE.is("n 2000", x.cellar(2000, 0), 0);
        DUE.is("n 2001", x.cellar(2001, 0), -1);
        DUE.is("what 1", x.cellar(0, 1), 1);
        DUE.is("what 2", x.cellar(0, 2), -1);
        DUE.is("what -1", x.cellar(0, -1), -1);
        x = DUE.told("shot a 1 0;");
        DUE.is("no PLACES", x.cellar(2000, 0), -2);
        DUE.is("no PLACES, which", x.cellar(0, 1), -2);
        DUE.is("no PLACES, n 2001", x.cellar(2001, 0), -1);
        DUE.is("no PLACES, n -1", x.cellar(-1, 0), -1);
        DUE.is("no PLACES, what 2", x.cellar(0, 2), -1);
        DUE.is("no PLACES, no SHOTS", DUE.told("").cellar(0, 0), -2);
        // As late as five can be, and one SECOND sooner.
        x = DUE.told(NOISY + shots(5, 9, 0) + "bears = day/(300+which*309)*99;");
        cellar("five, each 300", x, 1545, 0, 0);
        cellar("five, each 300", x, 1544, 1, 16);
        cellar("five, each 300", x, 309, 4, 30);
        cellar("five, each 300", x, 308, 5, 31);
    }

    private static void bribe(String what, QuietTake x, int whom, int sooner) {
        DUE.is(what + ": whom", x.bribe(0, 0), whom);
        DUE.is(what + ": how much sooner", x.bribe(0, 1), sooner);
    }

    /** 'soonest, and sooner than now; of alike ones the first; how much sooner (as if 301 .., if it cannot now)'. */
    private static void bribes() {
        bribe("it cannot now", DUE.told(NOISY + "shot s 1 49;"), 0, 301);
        bribe("it can now", DUE.told(NOISY + "shot s 1 50;"), -2, -2);
        bribe("it can in 1", DUE.told("clock c 0 999 1 50 0; place p 0; shot s 1 49;"), 0, 1);
        bribe("it can in 299", DUE.told(NOISY + "shot s 1 0; bears = (day-298)*99;"), 0, 299);
        bribe("it can in 300", DUE.told(NOISY + "shot s 1 0; bears = (day-299)*99;"), 0, 300);
        bribe("it can in 301", DUE.told(NOISY + "shot s 1 0; bears = (day-300)*99;"), 0, 301);
        bribe("the one that is in the way first",
            DUE.told("clock a 0 9 1 50 0; clock b 9 9 1 50 0; clock c 0 1 1 0 0; place p 0; shot s 1 9;"), 0, 1);
        bribe("none of two at once", DUE.told("clock m 0 1 1 50 0;" + NOISY + "shot s 1 49;"), -2, -2);
        for (int softer = 1; softer < 50; softer++) {
            String both = "clock m 0 1 1 " + softer + " 0;" + NOISY;
            bribe("the softer one 1 too loud", DUE.told(both + "shot s 1 " + (softer - 1) + ";"), -2, -2);
            bribe("the softer one borne", DUE.told(both + "shot s 1 " + softer + ";"), 1, 301);
        }
        bribe("none, for rustling", DUE.told(NOISY + "shot s 1 49; rustles = 100;"), -2, -2);
        // a is heard from 0 till 4, b from 2 till 8: without a 2 can begin at 0, but 3 no sooner than without b, at 5.
        String two = "clock a 0 99 5 50 0; clock b 2 99 7 50 0; place p 0;";
        bribe("2 long", DUE.told(two + "shot s 2 9;"), 0, 9);
        bribe("3 long", DUE.told(two + "shot s 3 9;"), 1, 4);
        // Two can not be alike: the one would have to be in the way without the other.
        bribe("those that are borne are not in the way",
            DUE.told("clock a 30 99 1 1 0; clock c 0 2 1 50 0; clock d 0 3 1 5 0; place p 0; shot s 2 9;"), 1, 301);
        bribe("the soonest of two",
            DUE.told("clock a 1 9 8 50 0; clock b 0 9 1 50 0; place p 0; shot s 1 9;"), 1, 301);
        bribe("no NOISES", DUE.told("place p 0; shot s 1 9; rustles = 100;"), -2, -2);
    }

    /** 'if it were PAID till 300 SECONDS from now (or later, as it is)'. */
    private static void bribedTill() {
        // All is loud but for n's being paid, from the SECOND told on: that is the first that a TAKE may begin with.
        String text = "clock n 0 1 1 50 0; clock m 0 1 1 40 0; place p 0; shot s %d 9;"
            + "hear = if which < 1 then loud else (%d - day) * 40;";
        bribe("1 long from 299 on", DUE.told(String.format(text, 1, 299)), 0, 2);
        bribe("1 long from 300 on", DUE.told(String.format(text, 1, 300)), -2, -2);
        bribe("2 long from 298 on", DUE.told(String.format(text, 2, 298)), 0, 3);
        bribe("2 long from 299 on", DUE.told(String.format(text, 2, 299)), -2, -2);
        bribe("9 long from 291 on", DUE.told(String.format(text, 9, 291)), 0, 10);
        bribe("9 long from 292 on", DUE.told(String.format(text, 9, 292)), -2, -2);
        // Paid till 308 already: nothing is sooner by paying it, and by paying m it begins at once.
        QuietTake x = DUE.told(String.format(text, 9, 292));
        x.pay(0, 300);
        x.pay(0, 1);
        bribe("n paid till 301, m would be paid", x, 1, 292);
        // From now on, not from SECOND 0.
        x = DUE.told(String.format(text, 1, 300));
        x.waits(1);
        bribe("1 later", x, 0, 2);
        // Whatever one has, and whatever it costs.
        bribe("without COINS", DUE.told("clock n 0 1 1 50 99; place p 0; shot s 1 9; coins 0;"), 0, 301);
    }

    /** '-2: none; NONE: no such ones.' */
    private static void bribesRefused() {
        QuietTake x = DUE.told(NOISY + "shot s 1 9; shot t 1 9;");
        DUE.is("the last SHOT", x.bribe(1, 0), 0);
        DUE.is("one more", x.bribe(2, 0), -1);
        DUE.is("one less", x.bribe(-1, 0), -1);
        DUE.is("what 1", x.bribe(1, 1), 301);
        DUE.is("what 2", x.bribe(1, 2), -1);
        DUE.is("what -1", x.bribe(1, -1), -1);
        x = DUE.told("clock n 0 1 1 50 0; shot s 1 9;");
        DUE.is("no PLACES", x.bribe(0, 0), -2);
        DUE.is("no PLACES, how much", x.bribe(0, 1), -2);
        DUE.is("no PLACES, no such SHOT", x.bribe(1, 0), -1);
        DUE.is("no PLACES, no such what", x.bribe(0, 2), -1);
    }

    private static void cheapest(String what, QuietTake x, int coins, int which) {
        DUE.is(what + ": COINS", x.cheapest(0, 0), coins);
        DUE.is(what + ": which", x.cheapest(0, 1), which);
    }

    /** 'the least COINS (whatever one has) by which .. a TAKE here, now, is GOOD: .. of alike ones the least bits.' */
    private static void cheapests() {
        cheapest("nobody", DUE.told(NOISY + "shot s 9 50;"), 0, 0);
        cheapest("for nothing", DUE.told(NOISY + "shot s 9 49;"), 0, 1);
        cheapest("the dearest", DUE.told("clock n 0 1 1 50 99; place p 0; shot s 9 49; coins 0;"), 891, 1);
        String eight = "clock a 0 1 1 10 1; clock b 1 9 1 11 2; clock c 8 9 1 12 3; clock d 9 9 1 13 4;"
            + "chance e 100 1 14 5; chance f 0 1 15 6; clock g 0 9 1 16 0; clock h 4 9 1 99 99; place p 0;";
        cheapest("9 long, all that is ON", DUE.told(eight + "shot s 9 0;"), 9 * 110, 215);
        cheapest("8 long", DUE.told(eight + "shot s 8 0;"), 8 * 107, 211);
        cheapest("1 long", DUE.told(eight + "shot s 1 0;"), 6, 81);
        cheapest("as it bears 12", DUE.told(eight + "shot s 9 12;"), 9 * 104, 208);
        cheapest("as it bears 16", DUE.told(eight + "shot s 9 16;"), 9 * 99, 128);
        cheapest("as it bears 99", DUE.told(eight + "shot s 9 99;"), 0, 0);
        cheapest("rustling borne", DUE.told(NOISY + "shot s 1 50; rustles = 100;"), 0, 0);
        cheapest("rustling not borne", DUE.told(NOISY + "shot s 1 49; rustles = 100;"), -2, -2);
        cheapest("rustling in the last SECOND",
            DUE.told("place p 0; shot s 9 49; rustles = (stood - 7) * 100;"), -2, -2);
        cheapest("rustling behind the last SECOND",
            DUE.told("place p 0; shot s 9 49; rustles = (stood - 8) * 100;"), 0, 0);
    }

    /** 'NOISES being PAID for as many SECONDS as a SHOT is LONG', from when they are PAID till, if that is later. */
    private static void cheapestsPaid() {
        for (int paid = 7; paid <= 10; paid++) {
            QuietTake x = DUE.told("clock n 0 1 1 50 2; place p 0; shot s 9 49;");
            x.pay(0, paid);
            cheapest("paid for " + paid, x, paid < 9 ? 18 : 0, paid < 9 ? 1 : 0);
        }
        QuietTake x = DUE.told("clock n 0 1 1 50 2; place p 0; place q 1; shot s 9 49; shot t 1 50; hear = loud - far;");
        cheapest("here", x, 18, 1);
        DUE.is("the last SHOT", x.cheapest(1, 0), 0);
        DUE.is("one more", x.cheapest(2, 0), -1);
        DUE.is("one less", x.cheapest(-1, 0), -1);
        DUE.is("what 2", x.cheapest(0, 2), -1);
        DUE.is("what -1", x.cheapest(0, -1), -1);
        x.moves(1);
        cheapest("there", x, 0, 0);
        x = DUE.told("clock n 0 1 1 50 2; shot s 9 49;");
        cheapest("no PLACES", x, -2, -2);
        DUE.is("no PLACES, no such SHOT", x.cheapest(1, 0), -1);
        DUE.is("no PLACES, no such what", x.cheapest(0, 2), -1);
    }

    /** 'BREAK OFF of a SHOT begun in n SECONDS (0 .. 300): its first SECOND that is not CLEAR.' */
    private static void breakOffs() {
        QuietTake x = DUE.told("clock c 308 999 1 50 0; clock d 305 999 1 20 0; place p 0; shot s 9 49; shot t 9 19;");
        DUE.is("the last SECOND", x.breakOff(0, 300), 8);
        DUE.is("behind the last", x.breakOff(0, 299), -2);
        DUE.is("the first of two", x.breakOff(1, 300), 5);
        DUE.is("in 297", x.breakOff(1, 297), 8);
        DUE.is("in 296", x.breakOff(1, 296), -2);
        DUE.is("in 0", x.breakOff(0, 0), -2);
        DUE.is("in 301", x.breakOff(0, 301), -1);
        DUE.is("in -1", x.breakOff(0, -1), -1);
        DUE.is("one more SHOT", x.breakOff(2, 0), -1);
        DUE.is("SHOT -1", x.breakOff(-1, 0), -1);
        x.waits(300);
        DUE.is("now", x.breakOff(1, 0), 5);
        DUE.is("the first SECOND", x.breakOff(1, 5), 0);
        x = DUE.told("place p 0; shot s 9 49; rustles = (stood - 304) * 100;");
        DUE.is("as if they stood on", x.breakOff(0, 300), 5);
        x = DUE.told("clock c 0 1 1 50 0; shot s 9 49; rustles = 100;");
        DUE.is("no PLACES", x.breakOff(0, 0), -2);
        DUE.is("no PLACES, in 301", x.breakOff(0, 301), -1);
        DUE.is("no PLACES, no such SHOT", x.breakOff(1, 0), -1);
    }

    /** 'how many till it is DONE (20 at most; what is JOINED already counts)'; '0: DONE'. */
    private static void joins() {
        for (int length : new int[] {1, 9}) {
            String text = NOISY + "shot s " + length + " 0; bears = (day-%d)*99;";
            DUE.is("19 of " + length, DUE.told(String.format(text, 18 * length - 1)).join(0), 19);
            DUE.is("20 of " + length, DUE.told(String.format(text, 19 * length - 1)).join(0), 20);
            DUE.is("21 of " + length, DUE.told(String.format(text, 20 * length - 1)).join(0), -2);
            // The last of them wants all of its SECONDS.
            DUE.is("all but one of the 20th", DUE.told(String.format(text, 19 * length)).join(0), -2);
        }
        QuietTake x = DUE.told("clock c 1 10 9 50 0; place p 0; shot s 9 49; shot t 1 99;");
        for (int left = 9; left >= 0; left--) {
            DUE.is("left " + left, x.join(0), left);
            x.take(0);
        }
        DUE.is("the other one", x.join(1), 1);
        x.take(1);
        DUE.is("the other one, DONE", x.join(1), 0);
        DUE.is("one more SHOT", x.join(2), -1);
        DUE.is("SHOT -1", x.join(-1), -1);
        x = DUE.told("shot s 1 99;");
        DUE.is("no PLACES", x.join(0), -2);
        DUE.is("no PLACES, no such SHOT", x.join(1), -1);
        x = DUE.told("place p 0; shot s 2 49; rustles = (2 - stood) * 100;");
        DUE.is("as if they stood on", x.join(0), 2);
    }

    /** 'by s SEEDS (1 .. 20) from the text's SEED on .. begun in n SECONDS (0 .. 300), is GOOD.' */
    private static void odds() {
        for (int seed : new int[] {0, 9980, 9999}) {
            QuietTake x = DUE.told("chance c 50 1 60 0; place p 0; shot s 1 9; shot t 1 59; rustles = 30; seed " + seed
                + ";");
            for (int n : new int[] {0, 299, 300}) {
                int good = 0;
                int rustlingOnly = 0;
                for (int s = 1; s <= 20; s++) {
                    int by = seed + s - 1;
                    boolean quiet = PlainModel.lot(100, by, 8 * n) >= 50;
                    boolean still = PlainModel.lot(100, by, 8 * n + 4000000) >= 30;
                    good += quiet && still ? 1 : 0;
                    rustlingOnly += quiet ? 1 : 0;
                    DUE.is("seed " + seed + ", in " + n + ", by " + s, x.odds(0, n, s), good);
                    DUE.is("seed " + seed + ", in " + n + ", by " + s + ", of t", x.odds(1, n, s), rustlingOnly);
                }
                DUE.is("by 0", x.odds(0, n, 0), -1);
                DUE.is("by 21", x.odds(0, n, 21), -1);
                DUE.is("by -1", x.odds(0, n, -1), -1);
            }
            DUE.is("in 301", x.odds(0, 301, 1), -1);
            DUE.is("in -1", x.odds(0, -1, 1), -1);
            DUE.is("one more SHOT", x.odds(2, 0, 1), -1);
            DUE.is("SHOT -1", x.odds(-1, 0, 1), -1);
        }
        QuietTake x = DUE.told("place p 0; shot s 9 0;");
        DUE.is("all of 20", x.odds(0, 300, 20), 20);
        DUE.is("none of 20", DUE.told(NOISY + "shot s 9 49;").odds(0, 0, 20), 0);
        // To its last SECOND: of a TAKE of 9 in 300 that is 308.
        DUE.is("308 loud", DUE.told("clock c 308 999 1 50 0; place p 0; shot s 9 49;").odds(0, 300, 20), 0);
        DUE.is("309 loud", DUE.told("clock c 309 999 1 50 0; place p 0; shot s 9 49;").odds(0, 300, 20), 20);
        x = DUE.told("shot s 1 99;");
        DUE.is("no PLACES", x.odds(0, 0, 20), 0);
        DUE.is("no PLACES, by 21", x.odds(0, 0, 21), -1);
        DUE.is("no PLACES, in 301", x.odds(0, 301, 1), -1);
        DUE.is("no PLACES, no such SHOT", x.odds(1, 0, 1), -1);
    }

    /** 'all at the PLACE where one is .. (a GOOD TAKE, here) .. a TAKE here, now .. from now on, here'. */
    private static void here() {
        QuietTake x = DUE.told("clock n 0 1 1 50 2; place p 0; place q 1; shot s 2 49; hear = loud - far; move 3;");
        int[] loud = {-2, 1, 301, 4, 0, -2, 0};
        int[] quiet = {2, 0, -2, 0, -2, 1, 20};
        for (int turn = 0; turn < 4; turn++) {
            int[] want = turn % 2 == 0 ? loud : quiet;
            int[] got = {x.order(-1), x.cellar(2000, 0), x.bribe(0, 1), x.cheapest(0, 0), x.breakOff(0, 0), x.join(0),
                x.odds(0, 0, 20)};
            for (int i = 0; i < want.length; i++) {
                DUE.is("turn " + turn + ", plan " + i, got[i], want[i]);
            }
            x.moves(1 - turn % 2);
        }
    }

    public static void main(String[] args) {
        here();
        fiveAtMost();
        waitingAtMost();
        ofAlikeOrders();
        noOrder();
        cellars();
        cellarsRefused();
        bribes();
        bribedTill();
        bribesRefused();
        cheapests();
        cheapestsPaid();
        breakOffs();
        joins();
        odds();
        DUE.end();
    }
}
