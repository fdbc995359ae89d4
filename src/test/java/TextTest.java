/** Promises 1 to 5: a new object, the tape, the text and its FAULTS. */
public final class TextTest {
    private static final Due DUE = new Due();

    private static void fault(String text, int fault, int place) {
        QuietTake x = new QuietTake();
        String said = text.length() > 90 ? text.substring(0, 40) + " .. " + text.substring(text.length() - 40) : text;
        DUE.is("read of '" + said + "'", Feeding.read(x, text), fault);
        DUE.is("place of '" + said + "'", x.place(), place);
    }

    private static void fine(String text) {
        fault(text, 0, -1);
    }

    private static void newObject() {
        QuietTake x = new QuietTake();
        for (int what = -2; what < 16; what++) {
            DUE.is("new: count " + what, x.count(what), what == 6 ? 50 : what < 0 || what > 13 ? -1 : 0);
        }
        DUE.is("new: place", x.place(), -1);
        DUE.is("new: undo", x.undo(), false);
        DUE.is("new: restore", x.restore(0), false);
        DUE.is("new: back", x.back(1), -1);
        DUE.is("new: when", x.when(0, -1), 1000);
        DUE.is("new: noise", x.noise(0, 0), -1);
        DUE.is("new: order", x.order(-1), -2);
    }

    private static void tape() {
        QuietTake x = new QuietTake();
        for (int i = 1; i <= 100; i++) {
            DUE.is("feed " + i, x.feed(0x20202020, 0x20202020, 0x20202020, 0x20202020, 0x20202020), 20 * i);
        }
        DUE.is("feed beyond", x.feed(0, 0, 0, 0, 0), -1);
        DUE.is("count behind it", x.count(9), 2000);
        DUE.is("back 1", x.back(1), 1999);
        DUE.is("feed 19 too many", x.feed(0, 0, 0, 0, 0), -1);
        DUE.is("back 0", x.back(0), 1999);
        DUE.is("back below 0", x.back(-1), -1);
        DUE.is("back of the least int", x.back(Integer.MIN_VALUE), -1);
        DUE.is("back too many", x.back(2000), -1);
        DUE.is("count behind them", x.count(9), 1999);
        DUE.is("back 18", x.back(18), 1981);
        DUE.is("feed 1 too many", x.feed(0, 0, 0, 0, 0), -1);
        DUE.is("back 1 more", x.back(1), 1980);
        DUE.is("feed to the end", x.feed(0x20202020, 0x20202020, 0x20202020, 0x20202020, 0x20202020), 2000);
        DUE.is("read of 2000 blanks", x.read(), 0);
        DUE.is("tape behind read", x.count(9), 0);
        DUE.is("back of none", x.back(0), 0);
        // The highest byte first: "coins 1234;" and blanks, then a byte above 127.
        x.feed(0x636f696e, 0x73203132, 0x33343b20, 0x20202020, 0x20202020);
        DUE.is("read", x.read(), 0);
        DUE.is("coins", x.count(6), 1234);
        x.feed(0x20202020, 0x20202020, 0x20202020, 0x20202020, 0x202020ff);
        DUE.is("read of 255", x.read(), 1);
        DUE.is("place of 255", x.place(), 19);
    }

    private static void tokens() {
        fine("");
        fine(" \t\r\n");
        fine("clock abcdefgh 999 999 99 99 99;");
        fine("clock a1 1 1 1 1;");
        fine("move5;coins0007;seed 9999 ;");
        fine("move\t5\r\n;");
        fault("clock abcdefghi 1 1 1 1 1;", 1, 6);
        fault("clock a 00001 1 1 1 1;", 1, 8);
        fault("clock a 12345", 1, 8);
        fault("Move 5;", 1, 0);
        fault("move 5;\u00e9", 1, 7);
        fault("move\u000b5;", 1, 4);
        fault("move\u00005;", 1, 4);
        fault("move 5,", 1, 6);
        fault("hear = 1 > 2;", 1, 9);
        fault("movee 5;", 1, 0);
        fault("mov 5;", 1, 0);
        fault("nove 5;", 1, 0);
        fault("mover 5;", 1, 0);
        fault("abcdefghijklmnopqrstuvwxyz", 1, 0);
    }

    private static void syntax() {
        for (String word : new String[] {"clock", "chance", "place", "shot", "hear", "bears", "rustles", "move",
            "coins", "seed", "if", "then", "else", "loud", "age", "lasts", "far", "limit", "second", "stood", "which",
            "day"}) {
            fault("place " + word + " 1;", 1, 6);
        }
        fine("place name 1; place names 2; place ifs 3; place clocks 4;");
        fault("clock a 1 1 1 1;", 1, 15);
        fault("clock a 1 1 1 1 1 1;", 1, 18);
        fault("chance a 1 1 1;", 1, 14);
        fault("chance a 1 1 1 1 1;", 1, 17);
        fault("place a;", 1, 7);
        fault("shot a 1;", 1, 8);
        fault("shot 1 1;", 1, 5);
        fault("move a;", 1, 5);
        fault("move -5;", 1, 5);
        fault("move 5", 1, 6);
        fault("move 5  ", 1, 8);
        fault("move 5;x", 1, 7);
        fault("; move 5;", 1, 0);
        fault("a", 1, 0);
        fault("5", 1, 0);
        fault("if", 1, 0);
    }

    private static void lawSyntax() {
        fine("hear = loud+age-lasts*far/limit+second*stood-which+day;");
        fine("bears=if 1<2 then 3 else if(1)<(2+2)then 4*4 else 5;");
        fine("rustles = ((((((1))))))+((((((2))))))*(3)-(4)+(5)+(6)+(7)+(8);");
        fault("hear = loud", 1, 11);
        fault("hear loud;", 1, 5);
        fault("hear = ;", 1, 7);
        fault("hear = = 1;", 1, 7);
        fault("hear = loud loud;", 1, 12);
        fault("hear = (loud;", 1, 12);
        fault("hear = loud);", 1, 11);
        fault("hear = ();", 1, 8);
        fault("hear = 1 + ;", 1, 11);
        fault("hear = + 1;", 1, 7);
        fault("hear = 1 + - 1;", 1, 11);
        fault("hear = name;", 1, 7);
        fault("hear = if 1 < 2 then 3;", 1, 22);
        fault("hear = if 1 then", 1, 12);
        fault("hear = if 1 < 2 < 3", 1, 16);
        fault("hear = if 1 < 2 else", 1, 16);
        fault("hear = if (1 < 2)", 1, 13);
        fault("hear = 1 + if 1 < 2 then 3 else 4;", 1, 11);
        fault("hear = 1 < 2;", 1, 9);
        fault("hear = if 1 < 2 then if 1 < 2 then 3 else 4 else 5;", 1, 21);
        fault("hear = else 1;", 1, 7);
    }

    private static String many(String tell, int n) {
        StringBuilder text = new StringBuilder();
        for (int i = 0; i < n; i++) {
            text.append(tell.replace('?', (char) ('a' + i)));
        }
        return text.toString();
    }

    private static void room() {
        fine(many("clock ? 0 1 1 1 1;", 8));
        fault(many("clock ? 0 1 1 1 1;", 9), 2, 8 * 18);
        fault(many("clock ? 0 1 1 1 1;", 4) + many("chance x? 1 1 1 1;", 4) + " chance", 2, 8 * 18 + 1);
        fine(many("place ? 1;", 4));
        fault(many("place ? 1;", 4) + "place ;", 2, 40);
        fine(many("shot ? 1 1;", 6));
        fault(many("shot ? 1 1;", 7), 2, 66);
        String branch = "if 1 < 2 then 3 else ";
        fine("hear = " + many(branch, 4) + "4; bears = " + many(branch, 4) + "4; hear = " + many(branch, 4) + "4;");
        fault("hear = " + many(branch, 5) + "4;", 2, 7 + 4 * branch.length());
        fault("hear = " + many(branch, 4) + "if", 2, 7 + 4 * branch.length());
        fine("hear = ((((((1))))));");
        fault("hear = (((((((1)))))));", 2, 13);
        fault("hear = 1+(2*(((((", 1, 17);
        fault("hear = 1+(2*((((((", 2, 17);
    }

    private static void fourHundredTokens() {
        String most = many("move 1;", 132) + "place a 1;";
        fine(most);
        fine(most + "  \n ");
        fault(most + " move 1;", 2, 935);
        fault(most + "move", 2, 934);
        fault(most + "x", 1, 934);
        fault(most + ".", 1, 934);
        fault(many("move 1;", 133) + "move 1;", 2, 133 * 7 + 5);
        fault(many("move 1;", 133) + "move ;", 1, 133 * 7 + 5);
        fault(many("move 1;", 133) + "move", 1, 133 * 7 + 4);
        fault("hear = " + many("1+", 198) + "1+1;", 2, 7 + 2 * 198 + 2);
        fine("hear = " + many("1+", 198) + "1;");
        fault("hear = (" + many("1+", 197) + "1)", 1, 7 + 2 * 197 + 3);
        fault("hear = (" + many("1+", 198) + "1) ;", 2, 7 + 2 * 198 + 2);
        // What comes first by its place is told, not what weighs more.
        fault(many("move 1;", 140) + "x", 2, 133 * 7 + 5);
        fault("x" + many("move 1;", 140), 1, 0);
    }

    private static void twiceAndWrong() {
        fault("place a 1; shot a 1 1;", 3, 16);
        fault("clock a 1 1 1 1 1; chance a 1 1 1 1;", 3, 26);
        fault("place a 1; place b 1; place a 1; place b 1;", 3, 28);
        fine("place a 1; place aa 1; place aaa 1; place b 1;");
        fine("place ab 1; place ba 1; place abc 1; place bca 1;");
        String full = many("clock ? 1 1 1 1 1;", 8) + many("place p? 1;", 4) + many("shot s? 1 1;", 5);
        fine(full + "shot z 1 1;");
        for (int i = 0; i < 8; i++) {
            fault(full + "shot " + (char) ('a' + i) + " 1 1;", 3, full.length() + 5);
        }
        for (int i = 0; i < 4; i++) {
            fault(full + "shot p" + (char) ('a' + i) + " 1 1;", 3, full.length() + 5);
            fault(full + "shot s" + (char) ('a' + i) + " 1 1;", 3, full.length() + 5);
        }
        fault(full + "shot se 1 1;", 3, full.length() + 5);
        fault("place abcdefgh 1; place abcdefgi 1; place abcdefgh 1;", 3, 42);
        fault("place a 10; shot a 1 1;", 5, 8);
        fault("place a 1; shot a 0 1;", 3, 16);
        fault("place a 1; shot b 0 1; shot a 1 1;", 5, 18);
        fault("place a 10; x", 1, 12);
        fault("place a 10; place a 1; hear = (((((((", 2, 36);
        wrongNumbers("clock a # 1 1 1 1;", 0, 999);
        wrongNumbers("clock a 1 # 1 1 1;", 1, 999);
        wrongNumbers("clock a 1 1 # 1 1;", 1, 99);
        wrongNumbers("clock a 1 1 1 # 1;", 0, 99);
        wrongNumbers("clock a 1 1 1 1 #;", 0, 99);
        wrongNumbers("chance a # 1 1 1;", 0, 100);
        wrongNumbers("chance a 1 # 1 1;", 1, 20);
        wrongNumbers("chance a 1 1 # 1;", 0, 99);
        wrongNumbers("chance a 1 1 1 #;", 0, 99);
        wrongNumbers("place a #;", 0, 9);
        wrongNumbers("shot a # 1;", 1, 9);
        wrongNumbers("shot a 1 #;", 0, 99);
        wrongNumbers("move #;", 0, 99);
        wrongNumbers("coins #;", 0, 9999);
        wrongNumbers("seed #;", 0, 9999);
        wrongNumbers("hear = #;", 0, 9999);
        wrongNumbers("move 1; bears = if # < 1 then 1 else 1;", 0, 9999);
    }

    private static void wrongNumbers(String text, int least, int most) {
        fine(text.replace("#", String.valueOf(least)));
        fine(text.replace("#", String.valueOf(most)));
        if (least > 0) {
            fault(text.replace("#", String.valueOf(least - 1)), 5, text.indexOf('#'));
        }
        if (most < 9999) {
            fault(text.replace("#", String.valueOf(most + 1)), 5, text.indexOf('#'));
            fault(text.replace("#", "9999"), 5, text.indexOf('#'));
        }
    }

    private static QuietTake used() {
        QuietTake x = DUE.told("clock c 0 1 1 7 1; place p 0; place q 1; shot s 2 9; move 3; coins 20; seed 4;");
        DUE.is("take", x.take(0), 3);
        DUE.is("moves", x.moves(1), 5);
        DUE.is("pay", x.pay(0, 10), 10);
        DUE.is("tell", x.tell(0, 0, 7), 0);
        DUE.is("hold", x.hold(1), true);
        return x;
    }

    private static void counts(String when, QuietTake x, int... want) {
        for (int what = 0; what < want.length; what++) {
            DUE.is(when + ": count " + what, x.count(what), want[what]);
        }
    }

    private static void whatReadChanges() {
        QuietTake x = used();
        counts("used", x, 1, 2, 1, 5, 1, 5, 10, 1, 1, 0, 3, 1, 1, 0);
        DUE.is("faulty", Feeding.read(x, "place z 1; place z 2;"), 3);
        DUE.is("its place", x.place(), 17);
        counts("behind a FAULT", x, 1, 2, 1, 5, 1, 5, 10, 1, 1, 0, 3, 1, 1, 0);
        DUE.is("paid behind a FAULT", x.noise(0, 6), 15);
        DUE.is("undo behind a FAULT", x.undo(), true);
        DUE.is("an empty text", x.read(), 0);
        DUE.is("place behind it", x.place(), -1);
        counts("behind an empty text", x, 0, 0, 0, 0, 0, 0, 50, 0, 0, 0, 0, 0, 0, 0);
        DUE.is("its slot", x.restore(1), false);

        x = used();
        DUE.is("another text", Feeding.read(x, "clock c 0 1 1 7 1; place p 0; place q 1; shot s 2 9;"), 0);
        counts("behind another text", x, 1, 2, 1, 0, 0, 0, 50, 0, 0, 0, 0, 0, 0, 1);
        DUE.is("paid", x.noise(0, 6), 0);
        DUE.is("takes", x.shot(0, 4), 0);
        DUE.is("joined", x.shot(0, 2), 0);
        DUE.is("move not told", x.moves(1), 5);
        DUE.is("slot", x.restore(1), false);
    }

    /** Of a text ahead nothing is left, neither in what is told nor in what is counted for its FAULTS. */
    private static void textBehindText() {
        String full = many("clock ? 1 1 1 1 1;", 8) + many("place p? 1;", 4) + many("shot s? 1 99;", 6);
        QuietTake x = DUE.told(full + "hear = 7; bears = 8; rustles = 100; move 1; coins 2; seed 3;");
        DUE.is("loud", x.loud(0, 0), 50);
        DUE.is("as full a text", Feeding.read(x, full), 0);
        DUE.is("hear", x.heard(0, 0, 1), 1);
        DUE.is("bears", x.bears(0, 0), 99);
        DUE.is("rustles", x.loud(0, 0), 0);
        DUE.is("coins", x.count(6), 50);
        DUE.is("move", x.moves(1), 5);
        DUE.is("by chance", Feeding.read(x, "chance c 30 1 9 0; place p 0; seed 9999;"), 0);
        DUE.is("by seed 9999", x.loud(0, 0), 9);
        DUE.is("by chance again", Feeding.read(x, "chance c 30 1 9 0; place p 0;"), 0);
        DUE.is("by seed 0", x.loud(0, 0), 0);
        DUE.is("louder", Feeding.read(x, "chance c 60 1 19 0; place p 0;"), 0);
        DUE.is("by another text", x.loud(0, 0), 19);
    }

    private static void theLastOne() {
        QuietTake x = DUE.told("place p 0; place q 0; move 9; move 2; coins 3; coins 4; clock c 0 1 1 9 0; shot s 1 0;"
            + "hear = 1; hear = 2; bears = 3; bears = 4; rustles = 100; rustles = 0;");
        DUE.is("the last coins", x.count(6), 4);
        DUE.is("the last hear", x.loud(0, 0), 2);
        DUE.is("the last bears", x.bears(0, 0), 4);
        DUE.is("the last move", x.moves(1), 2);
        x = DUE.told("chance c 60 1 9 0; place p 0; seed 1; seed 0;");
        DUE.is("the last seed", x.heard(0, 0, 0), 9);
        x = DUE.told("clock c 0 1 1 9 0; place p 5; shot s 1 8;");
        DUE.is("hear not told", x.heard(0, 0, 0), 9);
        DUE.is("bears not told", x.bears(0, 0), 8);
        DUE.is("rustles not told", x.ours(0), 0);
    }

    public static void main(String[] args) {
        newObject();
        tape();
        tokens();
        syntax();
        lawSyntax();
        room();
        fourHundredTokens();
        twiceAndWrong();
        whatReadChanges();
        textBehindText();
        theLastOne();
        DUE.end();
    }
}
