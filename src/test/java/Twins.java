import java.util.ArrayList;
import java.util.List;
import java.util.function.Supplier;
import java.util.function.ToIntFunction;

/**
 * Whether a call leaves all as it was: one of two objects made alike is called, then both are looked at all over (what
 * goes on, what can be undone, what is TOLD, what SLOTS hold, what is on the tape), in fewer than 512 calls each.
 */
final class Twins {
    private final Due due;
    private final Supplier<QuietTake> maker;

    Twins(Due due, Supplier<QuietTake> maker) {
        this.due = due;
        this.maker = maker;
    }

    /** The call answers so, and nothing happens. */
    void same(String call, ToIntFunction<QuietTake> called, int answer) {
        QuietTake x = maker.get();
        due.is(call, called.applyAsInt(x), answer);
        compare(due, call, x, maker.get());
    }

    /** All that can be seen of an object that was called is as it is of one that was not. */
    static void compare(Due due, String call, QuietTake called, QuietTake uncalled) {
        List<String> names = new ArrayList<>();
        List<Integer> got = look(called, names);
        names.clear();
        List<Integer> want = look(uncalled, names);
        due.is("behind " + call + ": how much there is to see", got.size(), want.size());
        for (int i = 0; i < Math.min(got.size(), want.size()); i++) {
            due.is("behind " + call + ": " + names.get(i), got.get(i), want.get(i));
        }
    }

    private static void see(List<Integer> seen, List<String> names, String name, int answer) {
        seen.add(answer);
        names.add(name);
    }

    private static List<Integer> look(QuietTake x, List<String> names) {
        List<Integer> seen = new ArrayList<>();
        wholly(x, seen, names, "now, ");
        int undone = 0;
        while (undone < 41 && x.undo()) {
            undone++;
            goingOn(x, seen, names, undone + " undone, ");
        }
        see(seen, names, "how many are undone", undone);
        for (int slot = 0; slot < 3; slot++) {
            see(seen, names, "restore " + slot, x.restore(slot) ? 1 : 0);
            goingOn(x, seen, names, "slot " + slot + ", ");
        }
        see(seen, names, "read of the tape", x.read());
        see(seen, names, "its place", x.place());
        wholly(x, seen, names, "tape read, ");
        return seen;
    }

    /** All but what the text alone tells. */
    private static void goingOn(QuietTake x, List<Integer> seen, List<String> names, String when) {
        for (int what = 3; what < 14; what++) {
            see(seen, names, when + "count " + what, x.count(what));
        }
        int noises = x.count(0);
        for (int noise = 0; noise < noises; noise++) {
            see(seen, names, when + "paid " + noise, x.noise(noise, 6));
        }
        int shots = x.count(2);
        for (int shot = 0; shot < shots; shot++) {
            for (int what = 2; what < 6; what++) {
                see(seen, names, when + "shot " + shot + ", " + what, x.shot(shot, what));
            }
        }
        see(seen, names, when + "loud", x.loud(x.count(4), 1));
    }

    private static void wholly(QuietTake x, List<Integer> seen, List<String> names, String when) {
        goingOn(x, seen, names, when);
        see(seen, names, when + "place()", x.place());
        for (int what = 0; what < 3; what++) {
            see(seen, names, when + "count " + what, x.count(what));
        }
        int noises = x.count(0);
        for (int noise = 0; noise < noises; noise++) {
            for (int what = 0; what < 9; what++) {
                see(seen, names, when + "noise " + noise + ", " + what, x.noise(noise, what));
            }
        }
        int shots = x.count(2);
        for (int shot = 0; shot < shots; shot++) {
            see(seen, names, when + "long " + shot, x.shot(shot, 0));
            see(seen, names, when + "limit " + shot, x.shot(shot, 1));
            see(seen, names, when + "bears " + shot, x.bears(shot, 0));
            see(seen, names, when + "odds " + shot, x.odds(shot, 3, 20));
        }
        int places = x.count(1);
        for (int place = 0; place < places; place++) {
            for (int n = 0; n <= 300; n += 75) {
                see(seen, names, when + "loud " + place + ", " + n, x.loud(place, n));
            }
            see(seen, names, when + "ours " + place, x.ours(place));
        }
        int told = x.count(11);
        for (int k = 0; k <= told; k++) {
            see(seen, names, when + "when " + k, x.when(k, -1));
            see(seen, names, when + "when " + k + ", 0", x.when(k, 0));
        }
        see(seen, names, when + "order", x.order(-1));
    }
}
