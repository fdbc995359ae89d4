/** Promises 1 to 5 and the text of 'Terms': each sentence that names a bound, at the bound and just beyond it. */
public final class EdgesOfTextTest {
    private static final Due DUE = new Due();
    private static final int BLANKS = 0x20202020;

    private static String said(String text) {
        return text.length() > 90 ? text.substring(0, 40) + " .. " + text.substring(text.length() - 40) : text;
    }

    private static void fault(String text, int fault, int place) {
        QuietTake x = new QuietTake();
        DUE.is("read of '" + said(text) + "'", Feeding.read(x, text), fault);
        DUE.is("place of '" + said(text) + "'", x.place(), place);
    }

    private static void fine(String text) {
        fault(text, 0, -1);
    }

    private static String many(String tell, int n) {
        StringBuilder text = new StringBuilder();
        for (int i = 0; i < n; i++) {
            text.append(tell.replace('?', (char) ('a' + i)));
        }
        return text.toString();
    }

    /** 'Nothing is told.' */
    private static void nothingIsTold() {
        QuietTake x = new QuietTake();
        DUE.is("noises", x.count(0) + x.count(1) + x.count(2), 0);
        int[] none = {x.noise(0, 0), x.shot(0, 0), x.heard(0, 0, 0), x.loud(0, 0), x.bears(0, 0), x.take(0), x.moves(0),
            x.pay(0, 1), x.hole(0, 1, 0), x.holes(0, 1, 0), x.softest(0, 1, 0), x.next(0), x.loudest(0, 0),
            x.peak(0, 0), x.ours(0), x.best(0, 0), x.order(0), x.bribe(0, 0), x.cheapest(0, 0), x.breakOff(0, 0),
            x.join(0), x.odds(0, 0, 1), x.tell(0, 0, 0), x.place(), x.back(1), x.when(1, -1), x.when(0, 1000)};
        for (int i = 0; i < none.length; i++) {
            DUE.is("new object, call " + i, none[i], -1);
        }
        DUE.is("calmest", x.calmest(1), -2);
        DUE.is("order", x.order(-1), -2);
        DUE.is("cellar", x.cellar(0, 0), -2);
        DUE.is("coins not told", x.count(6), 50);
        DUE.is("when", x.when(0, -1), 1000);
        DUE.is("forget", x.forget(), 0);
        DUE.is("read", x.read(), 0);
        DUE.is("an object does not begin with things done", x.undo(), false);
        DUE.is("nor with SLOTS that hold", x.restore(0) || x.restore(1) || x.restore(2), false);
        DUE.is("yet it goes on: waits", x.waits(300), 300);
        DUE.is("yet it goes on: hold", x.hold(2), true);
    }

    /** 'Twenty bytes, the highest of a first, come behind the tape: how many it has. NONE .. if .. more than 2,000.' */
    private static void feeds() {
        // "coi", "ns 1234" .. over all five ints, each byte in its turn.
        QuietTake x = new QuietTake();
        DUE.is("feed", x.feed(0x0a0d0920, 0x20636f69, 0x6e732031, 0x32333420, 0x203b2020), 20);
        DUE.is("read", x.read(), 0);
        DUE.is("coins", x.count(6), 1234);
        for (int at = 0; at < 20; at++) {
            int[] w = {BLANKS, BLANKS, BLANKS, BLANKS, BLANKS};
            w[at / 4] ^= (' ' ^ 200 + at) << 24 - at % 4 * 8;
            x.feed(w[0], w[1], w[2], w[3], w[4]);
            DUE.is("byte " + at + " above 127", x.read(), 1);
            DUE.is("byte " + at + ": where", x.place(), at);
        }
        x = new QuietTake();
        for (int i = 1; i <= 99; i++) {
            DUE.is("feed " + i, x.feed(BLANKS, BLANKS, BLANKS, BLANKS, BLANKS), 20 * i);
        }
        DUE.is("to the last byte", x.feed(BLANKS, BLANKS, BLANKS, BLANKS, BLANKS), 2000);
        DUE.is("20 beyond", x.feed(0, 0, 0, 0, 0), -1);
        DUE.is("back 19", x.back(19), 1981);
        DUE.is("1 beyond", x.feed(0, 0, 0, 0, 0), -1);
        DUE.is("nothing came", x.count(9), 1981);
        DUE.is("back 1", x.back(1), 1980);
        DUE.is("as many as there may be", x.feed(BLANKS, BLANKS, BLANKS, BLANKS, 0x20202021), 2000);
        DUE.is("of what was fed nothing came", x.read(), 1);
        DUE.is("but the last", x.place(), 1999);
        DUE.is("empty then", x.feed(BLANKS, BLANKS, BLANKS, BLANKS, BLANKS), 20);
    }

    /** 'The last n bytes of the tape go .. NONE, and nothing goes, if it has not so many, or n is below 0.' */
    private static void backs() {
        QuietTake x = new QuietTake();
        DUE.is("0 of none", x.back(0), 0);
        DUE.is("1 of none", x.back(1), -1);
        Feeding.put(x, "move 5; coins 7;    ");
        DUE.is("21 of 20", x.back(21), -1);
        DUE.is("-1", x.back(-1), -1);
        DUE.is("0", x.back(0), 20);
        DUE.is("1", x.back(1), 19);
        DUE.is("20 of 19", x.back(20), -1);
        DUE.is("the last ones go", x.back(12), 7);
        DUE.is("read", x.read(), 0);
        DUE.is("coins are gone", x.count(6), 50);
        Feeding.put(x, "coins 8;x");
        DUE.is("all", x.back(9), 0);
        Feeding.put(x, "coins 9;");
        DUE.is("all went", x.read(), 0);
        DUE.is("coins", x.count(6), 9);
    }

    /** 'The tape, which is empty then, is read'; 'The byte of the latest read()'s FAULT; NONE without.' */
    private static void readsAndPlaces() {
        QuietTake x = new QuietTake();
        DUE.is("ahead of all reads", x.place(), -1);
        DUE.is("a FAULT at byte 0", Feeding.read(x, "x"), 1);
        DUE.is("byte 0", x.place(), 0);
        DUE.is("empty behind a FAULT", x.count(9), 0);
        DUE.is("an empty tape", x.read(), 0);
        DUE.is("without", x.place(), -1);
        DUE.is("a FAULT", Feeding.read(x, "move 5; move 100;"), 5);
        x.waits(1);
        x.undo();
        Feeding.put(x, "move 5;");
        x.back(1);
        DUE.is("the latest read's yet", x.place(), 13);
        DUE.is("at the text's end", x.read(), 1);
        DUE.is("its length", x.place(), 6);
    }

    /** 'A TEXT has 2,000 bytes at most': the last of them counts, and the text's end is byte 2,000. */
    private static void theLongestText() {
        String pad = " ".repeat(1992);
        QuietTake x = new QuietTake();
        DUE.is("2000 bytes", Feeding.read(x, pad + "coins 7;"), 0);
        DUE.is("all of them read", x.count(6), 7);
        fault(pad + " coins 7", 1, 2000);
        fault(pad + "coins 7x", 1, 1999);
        fault(pad + "coins 77", 1, 2000);
        fault("clock a 1 2 3 4 " + "1 ".repeat(992), 1, 18);
        fine("hear = " + "1" + " ".repeat(1991) + ";");
        fault("a".repeat(2000), 1, 0);
        fault("1".repeat(2000), 1, 0);
        fault("move " + "1".repeat(1995), 1, 5);
    }

    /** 'with blanks (9, 10, 13, 32) between or not .. letters a .. z .. digits .. SIGNS .. all else, is no TOKEN.' */
    private static void eachByte() {
        for (int sign = 0; sign < 256; sign++) {
            String text = "move" + (char) sign + "5;";
            boolean blank = sign == 9 || sign == 10 || sign == 13 || sign == 32;
            if (blank || sign >= '0' && sign <= '9') {
                fine(text);
            } else if (sign >= 'a' && sign <= 'z') {
                fault(text, 1, 0);
            } else {
                fault(text, 1, 4);
            }
            // Of NAMES and numbers all bytes that may be in them, and none else.
            String name = "place " + (char) sign + " 5;";
            if (sign >= 'a' && sign <= 'z') {
                fine(name);
            } else {
                fault(name, 1, blank ? 8 : 6);
            }
            String number = "coins 5" + (char) sign + ";";
            if (blank || sign >= '0' && sign <= '9') {
                fine(number);
            } else if (sign == ';') {
                fault(number, 1, 8);
            } else {
                fault(number, 1, 7);
            }
        }
        for (char sign : "+-*/".toCharArray()) {
            fine("hear=1" + sign + "2;");
        }
        fine("hear=if(1)<2then 3else 4;");
    }

    /** 'TOKENS, the longest that can be .. NAMES (.. 8 at most ..), INTS (1 to 4 digits)'. */
    private static void longestTokens() {
        fine("place a 1;");
        fine("place abcdefgh 1;");
        fault("place abcdefghi 1;", 1, 6);
        fine("coins 1;");
        fine("coins 9999;");
        fault("coins 10000;", 1, 6);
        fault("coins 00000;", 1, 6);
        fault("coins ;", 1, 6);
        fault("placea 1;", 1, 0);
        fault("place shotx;", 1, 11);
        fine("place holder 1;");
        fault("placeholder 1;", 1, 0);
        fine("place a1;place b2;");
        fault("place a1b;", 1, 8);
        fault("place a 1b;", 1, 9);
        fault("coins 1 2;", 1, 8);
        // Two that would be fine apart are no two TOKENS without a blank.
        fault("coins 99999999;", 1, 6);
        fault("clock abcdefghijklmnop 1 1 1 1 1;", 1, 6);
        QuietTake x = new QuietTake();
        DUE.is("digits ahead of it that are 0", Feeding.read(x, "coins 0012;"), 0);
        DUE.is("count for nothing", x.count(6), 12);
        fine("place a 0009;");
        fault("place a 0010;", 5, 8);
        // A NAME of 8 letters is another one if but one letter is.
        fine("place abcdefgh 1; place bbcdefgh 1; place abcdefgi 1; place abcdefg 1;");
        fault("place abcdefgh 1; place bbcdefgh 1; place abcdefgi 1; place abcdefgh 1;", 3, 60);
    }

    /** 'none of the words in quotes': a word with a letter more or less is a NAME, the word itself is none. */
    private static void words() {
        for (String word : ("clock chance place shot hear bears rustles move coins seed if then else loud age lasts far "
            + "limit second stood which day").split(" ")) {
            fault("shot " + word + " 1 1;", 1, 5);
            fine("shot " + word + "s 1 1;");
            fine("shot " + word.substring(1) + " 1 1;");
            fine("shot " + word.substring(0, word.length() - 1) + " 1 1;");
            fault("shot " + word.toUpperCase() + " 1 1;", 1, 5);
        }
    }

    /** The numbers of each TELL, at their bounds: they are kept as told. */
    private static void numbersAtTheirBounds() {
        QuietTake x = DUE.told("clock a 0 1 1 0 0; clock b 999 999 99 99 99; chance c 0 1 0 0; chance d 100 20 99 99;"
            + "place p 0; place q 9; shot s 1 0; shot t 9 99; hear = loud * 0 + far; move 99; coins 9999; seed 9999;");
        int[][] noises = {{1, 1, 0, 0, 1, 0, 0, 0, 1}, {1, 99, 99, 99, 0, -2, 0, 999, 999},
            {0, 1, 0, 0, 0, -2, 0, 0, 0}, {0, 20, 99, 99, 1, 0, 0, 0, 100}};
        for (int noise = 0; noise < 4; noise++) {
            for (int what = 0; what < 9; what++) {
                DUE.is("noise " + noise + ", " + what, x.noise(noise, what), noises[noise][what]);
            }
        }
        DUE.is("far 0", x.heard(0, 0, 0), 0);
        DUE.is("far 9", x.heard(0, 1, 0), 9);
        DUE.is("long 1", x.shot(0, 0), 1);
        DUE.is("limit 0", x.shot(0, 1), 0);
        DUE.is("long 9", x.shot(1, 0), 9);
        DUE.is("limit 99", x.shot(1, 1), 99);
        DUE.is("coins 9999", x.count(6), 9999);
        DUE.is("move 99", x.moves(1), 99);
        x = DUE.told("place p 0; place q 0; move 0; coins 0; seed 0;");
        DUE.is("coins 0", x.count(6), 0);
        DUE.is("move 0", x.moves(1), 0);
    }

    private static void bound(String text, int least, int most) {
        int at = text.indexOf('#');
        fine(text.replace("#", String.valueOf(least)));
        fine(text.replace("#", String.valueOf(most)));
        if (least > 0) {
            fault(text.replace("#", String.valueOf(least - 1)), 5, at);
        }
        if (most < 9999) {
            fault(text.replace("#", String.valueOf(most + 1)), 5, at);
        } else {
            fault(text.replace("#", "10000"), 1, at);
        }
        fault(text.replace("#", "-1"), 1, at);
    }

    /** 'WRONG (at the INT): a number not as told above.' */
    private static void numbersBeyondTheirBounds() {
        bound("clock a # 1 1 1 1;", 0, 999);
        bound("clock a 0 # 1 1 1;", 1, 999);
        bound("clock a 0 1 # 1 1;", 1, 99);
        bound("clock a 0 1 1 # 1;", 0, 99);
        bound("clock a 0 1 1 1 #;", 0, 99);
        bound("chance a # 1 1 1;", 0, 100);
        bound("chance a 0 # 1 1;", 1, 20);
        bound("chance a 0 1 # 1;", 0, 99);
        bound("chance a 0 1 1 #;", 0, 99);
        bound("place a #;", 0, 9);
        bound("shot a # 1;", 1, 9);
        bound("shot a 1 #;", 0, 99);
        bound("move #;", 0, 99);
        bound("coins #;", 0, 9999);
        bound("seed #;", 0, 9999);
        fine("bears = 9999 + 0; hear = (9999); rustles = if 9999 < 9999 then 9999 else 9999;");
        // The first by its place, in one TELL and in two; also behind a LAW, and in a TELL that a later one outdoes.
        fault("clock a 1000 0 0 100 100;", 5, 8);
        fault("clock a 1 0 0 100 100;", 5, 10);
        fault("clock a 1 1 0 100 100;", 5, 12);
        fault("clock a 1 1 1 100 100;", 5, 14);
        fault("hear = 9999; move 100; move 5;", 5, 18);
        fault("move 99; move 100; place a 10;", 5, 14);
    }

    /** 'NOISES, 8 at most, numbered from 0 on as they stand .. PLACES, 4 .. SHOTS, 6 .. numbered each from 0 on.' */
    private static void asManyAsThereMayBe() {
        String full = "shot a 1 11; clock b 0 1 1 21 0; place c 1; chance d 1 1 22 0; shot e 2 12; clock f 0 1 1 23 0;"
            + "chance g 1 1 24 0; place h 2; clock i 0 1 1 25 0; chance j 1 1 26 0; shot k 3 13; clock l 0 1 1 27 0;"
            + "place m 3; chance n 1 1 28 0; shot o 4 14; shot q 5 15; place r 4; shot s 6 16; hear = far;";
        QuietTake x = DUE.told(full);
        DUE.is("noises", x.count(0), 8);
        DUE.is("places", x.count(1), 4);
        DUE.is("shots", x.count(2), 6);
        for (int noise = 0; noise < 8; noise++) {
            DUE.is("noise " + noise + " of the clock", x.noise(noise, 0), 1 - noise % 2);
            DUE.is("noise " + noise + " loud", x.noise(noise, 2), 21 + noise);
        }
        for (int shot = 0; shot < 6; shot++) {
            DUE.is("shot " + shot + " long", x.shot(shot, 0), shot + 1);
            DUE.is("shot " + shot + " limit", x.shot(shot, 1), shot + 11);
        }
        for (int place = 0; place < 4; place++) {
            DUE.is("place " + place + " far", x.heard(0, place, 0), place + 1);
        }
        DUE.is("noise 8", x.noise(8, 0), -1);
        DUE.is("shot 6", x.shot(6, 0), -1);
        DUE.is("place 4", x.loud(4, 0), -1);
        for (String more : new String[] {"clock z 0 1 1 1 1;", "chance z 0 1 1 1;", "place z 1;", "shot z 1 1;"}) {
            fault(full + more, 2, full.length());
            fault(full + " \n" + more, 2, full.length() + 2);
            // Also ahead of what would be TWICE or WRONG in the same TELL, and of a SYNTAX later on.
            fault(full + more.replace('z', 'a'), 2, full.length());
            fault(full + more + "x", 2, full.length());
        }
        fine(full + "hear = 1; bears = 1; rustles = 1; move 1; coins 1; seed 1;" + many("hear = 1;", 20));
    }

    /** 'a 5th if of a LAW (at it)'. */
    private static void ifsOfALaw() {
        for (String law : new String[] {"hear=", "bears=", "rustles="}) {
            String four = law + many("if 1<2 then 3 else ", 4);
            fine(four + "4;");
            fault(four + "if 1<2 then 3 else 4;", 2, four.length());
            fault(four + "  if", 2, four.length() + 2);
            // Each LAW has four of its own.
            fine(four + "4;" + four + "4;" + four + "4;");
            fault(four + "4;" + four + "if", 2, 2 * four.length() + 2);
        }
        // Where no if may stand, it is SYNTAX, be it the 5th or not.
        String four = "hear=" + many("if 1<2 then 3 else ", 4);
        fault(four + "1+if", 1, four.length() + 2);
        fault(four + "(if", 1, four.length() + 1);
        String three = "hear=" + many("if 1<2 then 3 else ", 3) + "if 1<2 then ";
        fault(three + "if", 1, three.length());
    }

    /** 'a 7th ( within one another (at it)'. */
    private static void bracketsWithinOneAnother() {
        for (String ahead : new String[] {"hear=", "bears=1+", "rustles=2*", "hear=if ", "hear=if 1<", "hear=if 1<2 then ",
            "hear=if 1<2 then 3 else "}) {
            fault(ahead + "(((((((", 2, ahead.length() + 6);
            fault(ahead + "((((((", 1, ahead.length() + 6);
            fault(ahead + "((((((1)(", 1, ahead.length() + 8);
            fault(ahead + "((((((1)+((", 2, ahead.length() + 10);
            fault(ahead + "((((((1)+(2)+(((", 2, ahead.length() + 14);
        }
        fine("hear=((((((1))))))+((((((1))))));");
        fine("hear=((((((1)+(2)*(3))))));");
        fine("hear=if ((((((1))))))<((((((1)))))) then ((((((1)))))) else ((((((1))))));");
        // A ( where none may stand is SYNTAX, be it the 7th or not.
        fault("hear=((((((1(", 1, 12);
    }

    /** 'a 401st TOKEN'; of one place the least: SYNTAX, if no text goes on with it. */
    private static void fourHundredTokens() {
        String most = many("move 1;", 132) + "place a 1;";
        fine(most);
        fault(most + "seed", 2, most.length());
        fault(most + "seed 1;", 2, most.length());
        fault(most + ";", 1, most.length());
        fault(most + "abcdefghi", 1, most.length());
        fault(most + "12345", 1, most.length());
        fault(most + "\u0000", 1, most.length());
        fault(most + "seed seed", 2, most.length());
        // The 401st within a TELL, the 400th being its last one but one.
        String within = many("move 1;", 131) + "place a 1;place b ";
        fault(within + "1;", 2, within.length() + 1);
        fault(within + "1 1", 1, within.length() + 2);
        fault(within + "1", 1, within.length() + 1);
        // TWICE and WRONG are not looked at, if there is ROOM.
        fault("place a 10;" + most + "seed 1;", 2, 11 + 132 * 7);
        // All sorts of TOKENS count, blanks do not.
        String law = "hear=if(1)<2 then 3 else 4+5-6*7/8;";
        String spaced = law + many(" move  1 ;\n", 125) + "place a 1;";
        fine(spaced + "\t \r\n");
        fault(spaced + " seed", 2, spaced.length() + 1);
    }

    /** 'the first by its place .. of one place the least .. If there is none, likewise'. */
    private static void whichFaultIsTold() {
        String nine = many("clock ? 0 1 1 1 1;", 9);
        fault(nine + "x", 2, 8 * 18);
        fault("x" + nine, 1, 0);
        fault("place a 10; place a 11; x", 1, 24);
        fault("place a 10; place a 11; " + nine, 2, 24 + 8 * 18);
        fault("place a 9; place a 10;", 3, 17);
        fault("place a 10; place a 9;", 5, 8);
        fault("place a 9; place b 10; place a 9;", 5, 19);
        fault("place a 9; place a 9; place b 10;", 3, 17);
        fault("place a 9; place a 9; place a 9;", 3, 17);
        // A FAULT within the last TELL, ahead of the text's end.
        fault("move 5; move", 1, 12);
        fault("move 5; move ", 1, 13);
        fault("move 5; move 100", 1, 16);
    }

    /** 'TWICE: a NAME told already (all together)': of all sorts, whatever their order. */
    private static void namesOfAllSorts() {
        String[] tells = {"clock ? 0 1 1 1 1;", "chance ? 1 1 1 1;", "place ? 1;", "shot ? 1 1;"};
        for (String first : tells) {
            for (String second : tells) {
                String ahead = first.replace("?", "name");
                fine(ahead + second.replace("?", "names"));
                fine(ahead + second.replace("?", "nam"));
                fault(ahead + second.replace("?", "name"), 3, ahead.length() + second.indexOf('?'));
            }
        }
        // Of a text ahead no NAME is told.
        QuietTake x = DUE.told("place a 1;");
        DUE.is("the same NAME in another text", Feeding.read(x, "place a 1;"), 0);
        DUE.is("behind one that was refused", Feeding.read(x, "shot b 1 1; place b 1;"), 3);
        DUE.is("its NAMES are not told", Feeding.read(x, "shot b 1 1;"), 0);
    }

    /** 'A text with a FAULT changes nothing but the tape'. */
    private static void aFaultChangesNothing() {
        String[] faulty = {"coins 1; place z 1; x", "seed 9; " + many("place ? 1;", 5), "place z 1; shot z 1 1;",
            "hear = 7; bears = 7; rustles = 100; move 100;", "coins 3", "hear = (((((((1)))))));"};
        int[] faults = {1, 2, 3, 5, 1, 2};
        for (int i = 0; i < faulty.length; i++) {
            QuietTake x = used();
            DUE.is("read of " + faulty[i], Feeding.read(x, faulty[i]), faults[i]);
            // The one it is compared with was refused another text, at the same byte.
            int place = x.place();
            QuietTake y = used();
            Feeding.read(y, place < faulty[i].length() ? " ".repeat(place) + "!" : "move" + " ".repeat(place - 4));
            Twins.compare(DUE, "a text with FAULT " + faults[i], x, y);
        }
    }

    private static QuietTake used() {
        QuietTake x = DUE.told("clock c 1 7 3 60 2; chance d 30 2 40 3; place p 0; place q 2; shot s 3 45; shot t 1 99;"
            + "hear = loud - far * 9; bears = limit + second; rustles = stood * 2; move 4; coins 40; seed 5;");
        x.take(0);
        DUE.is("a GOOD one", x.take(1), 1);
        x.hold(1);
        x.moves(1);
        x.pay(1, 5);
        x.tell(1, 5, 42);
        return x;
    }

    /** 'else it is in place of the one ahead: SECOND 0, at PLACE 0, nobody stood yet, nobody paid, no takes; ..' */
    private static void aTextBeginsAnew() {
        String[] texts = {"", " ", "coins 50;", "place a 1;"};
        for (String text : texts) {
            QuietTake x = used();
            DUE.is("read", Feeding.read(x, text), 0);
            Twins.compare(DUE, "'" + text + "' behind another text", x, DUE.told(text));
        }
        String same = "clock c 1 7 3 60 2; chance d 30 2 40 3; place p 0; place q 2; shot s 3 45; shot t 1 99; coins 8;";
        QuietTake x = used();
        DUE.is("a text of as many", Feeding.read(x, same), 0);
        Twins.compare(DUE, "as many behind another text", x, DUE.told(same));
        x = used();
        DUE.is("read", Feeding.read(x, same), 0);
        int[] want = {2, 2, 2, 0, 0, 0, 8, 0, 0, 0, 0, 0, 0};
        for (int what = 0; what < want.length; what++) {
            DUE.is("count " + what, x.count(what), want[what]);
        }
        DUE.is("nobody paid", x.noise(1, 6), 0);
        for (int what = 2; what < 6; what++) {
            DUE.is("no takes, " + what, x.shot(0, what) + x.shot(1, what), 0);
        }
        DUE.is("nothing can be undone", x.undo(), false);
        DUE.is("SLOTS hold nothing", x.restore(1), false);
        DUE.is("nothing is TOLD", x.when(1, -1), -1);
    }

    /** 'LAWS: HEAR (loud), BEARS (limit), RUSTLES (0), if not told .. MOVE (5) .. COINS (50) .. SEED (0): the last one.' */
    private static void whatIsNotTold() {
        String set = "clock c 0 1 1 40 0; chance d 50 1 90 0; place p 9; place q 9; shot s 1 39; shot t 1 40;";
        QuietTake x = DUE.told(set);
        DUE.is("hear: loud", x.heard(0, 0, 0), 40);
        DUE.is("bears: limit", x.bears(0, 0), 39);
        DUE.is("rustles: 0", x.ours(0), 0);
        DUE.is("coins: 50", x.count(6), 50);
        DUE.is("seed: 0, LOT 50", x.noise(1, 4), 0);
        DUE.is("seed: 0, LOT 50 of 51", DUE.told(set.replace("50", "51")).noise(1, 4), 1);
        DUE.is("move: 5", x.moves(1), 5);
        x = DUE.told("hear=1; coins 1; move 1; seed 1; bears=1; rustles=100;" + set.replace("50", "51")
            + "seed 0; move 2; coins 2; bears=2; hear=2; rustles=0;");
        DUE.is("the last hear", x.heard(0, 0, 0), 2);
        DUE.is("the last bears", x.bears(0, 0), 2);
        DUE.is("the last rustles", x.ours(0), 0);
        DUE.is("the last coins", x.count(6), 2);
        DUE.is("the last seed", x.noise(1, 4), 1);
        DUE.is("the last move", x.moves(1), 2);
    }

    public static void main(String[] args) {
        nothingIsTold();
        feeds();
        backs();
        readsAndPlaces();
        theLongestText();
        eachByte();
        longestTokens();
        words();
        numbersAtTheirBounds();
        numbersBeyondTheirBounds();
        asManyAsThereMayBe();
        ifsOfALaw();
        bracketsWithinOneAnother();
        fourHundredTokens();
        whichFaultIsTold();
        namesOfAllSorts();
        aFaultChangesNothing();
        aTextBeginsAnew();
        whatIsNotTold();
        DUE.end();
    }
}
