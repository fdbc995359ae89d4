/** Promises 33 to 35: tell, forget, when. */
public final class TrackTest {
    private static final Due DUE = new Due();
    private static final String YARD = "clock bell 3 10 2 60 4; clock mower 0 100 40 30 1; place yard 0; place hill 3;"
        + "hear = loud - far * 10;";

    private static void tells() {
        QuietTake x = DUE.told(YARD);
        DUE.is("place 2", x.tell(2, 0, 1), -1);
        DUE.is("place -1", x.tell(-1, 0, 1), -1);
        DUE.is("second 100", x.tell(0, 100, 1), -1);
        DUE.is("second -1", x.tell(0, -1, 1), -1);
        DUE.is("noise 100", x.tell(0, 0, 100), -1);
        DUE.is("noise -1", x.tell(0, 0, -1), -1);
        DUE.is("none yet", x.count(11), 0);
        for (int i = 0; i < 20; i++) {
            DUE.is("tell " + i, x.tell(i % 2, 99, 99), i);
        }
        DUE.is("the 21st", x.tell(0, 0, 0), -1);
        DUE.is("twenty", x.count(11), 20);
        DUE.is("forget", x.forget(), 20);
        DUE.is("none", x.count(11), 0);
        DUE.is("forget none", x.forget(), 0);
        DUE.is("anew", x.tell(0, 0, 0), 0);
        DUE.is("no places", DUE.told("").tell(0, 0, 0), -1);
    }

    private static void whens() {
        QuietTake x = DUE.told(YARD);
        DUE.is("nothing known", x.when(0, -1), 1000);
        DUE.is("the first", x.when(0, 0), 0);
        DUE.is("the last", x.when(0, 999), 999);
        DUE.is("not so many", x.when(0, 1000), -1);
        DUE.is("k 1 of 0", x.when(1, -1), -1);
        DUE.is("k -1", x.when(-1, -1), -1);
        DUE.is("i below NONE", x.when(0, -2), -1);
        x.tell(0, 0, 60);
        DUE.is("bell", x.when(1, -1), 200);
        DUE.is("bell, the first", x.when(1, 0), 3);
        DUE.is("bell, the second", x.when(1, 1), 4);
        DUE.is("bell, the last", x.when(1, 199), 994);
        x.tell(0, 1, 30);
        DUE.is("bell, then mower", x.when(2, -1), 40);
        DUE.is("its first", x.when(2, 0), 4);
        DUE.is("its last", x.when(2, 39), 934);
        DUE.is("its 41st", x.when(2, 40), -1);
        x.tell(1, 0, 30);
        DUE.is("at another place", x.when(3, -1), 40);
        x.tell(1, 0, 31);
        DUE.is("cannot be", x.when(4, -1), 0);
        DUE.is("cannot be, the first", x.when(4, 0), -1);
        x.tell(0, 0, 60);
        DUE.is("cannot be either", x.when(5, -1), 0);
        DUE.is("known by 1 yet", x.when(1, -1), 200);
        DUE.is("known by 0 yet", x.when(0, -1), 1000);
        DUE.is("k 6 of 5", x.when(6, -1), -1);
        x.forget();
        DUE.is("forgotten", x.when(0, -1), 1000);
        DUE.is("forgotten, k 1", x.when(1, -1), -1);
        x.tell(0, 0, 0);
        DUE.is("quiet", x.when(1, -1), 480);
    }

    private static void beyondTheDay() {
        QuietTake x = DUE.told("clock c 999 999 99 10 0; clock d 998 999 1 20 0; place p 0; hear = loud + day / 1098;");
        x.tell(0, 99, 10);
        DUE.is("a track that goes beyond", x.when(1, -1), 99);
        DUE.is("its first", x.when(1, 0), 900);
        x.forget();
        x.tell(0, 99, 11);
        DUE.is("SECOND 1098 itself", x.when(1, -1), 0);
        x = DUE.told("clock c 0 1 1 10 0; place p 0; hear = loud + day / 1098;");
        x.tell(0, 99, 11);
        DUE.is("day 1098", x.when(1, -1), 1);
        DUE.is("that is", x.when(1, 0), 999);
    }

    private static void nobodyRustlesNobodyIsPaid() {
        QuietTake x = DUE.told("clock c 0 2 1 40 0; place p 0; place q 0; rustles = 100;");
        x.pay(0, 300);
        x.tell(0, 0, 40);
        x.tell(0, 1, 0);
        DUE.is("half of them", x.when(2, -1), 500);
        x.waits(1);
        x.moves(1);
        x.hold(0);
        DUE.is("wherever, whenever", x.when(2, 499), 998);
        x.restore(0);
        DUE.is("told yet", x.count(11), 2);
        x.undo();
        DUE.is("told yet, undone", x.when(2, -1), 500);
        x.read();
        DUE.is("not told to another text", x.count(11), 0);
    }

    private static void byChance() {
        QuietTake x = DUE.told("chance c 30 3 50 0; place p 0; hear = loud - age * 20; seed 12;");
        x.tell(0, 5, 10);
        int begins = 0;
        int first = -1;
        for (int begin = 0; begin < 1000; begin++) {
            boolean age2 = true;
            for (int back = 0; back < 3; back++) {
                age2 &= PlainModel.lot(100, 12, 8 * (begin + 5 - back)) < 30 == (back == 2);
            }
            begins += age2 ? 1 : 0;
            first = first < 0 && age2 ? begin : first;
        }
        DUE.is("by chance", x.when(1, -1), begins);
        DUE.is("by chance, the first", x.when(1, 0), first);
    }

    public static void main(String[] args) {
        tells();
        whens();
        beyondTheDay();
        nobodyRustlesNobodyIsPaid();
        byChance();
        DUE.end();
    }
}
