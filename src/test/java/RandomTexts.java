import java.util.ArrayList;
import java.util.List;
import java.util.Random;

/** Texts by a seed: most are without a FAULT, some have one or more. */
final class RandomTexts {
    private static final String[] VARS =
        {"loud", "age", "lasts", "far", "limit", "second", "stood", "which", "day"};
    private static final String[] STRAY = {"clock", "chance", "place", "shot", "hear", "bears", "rustles", "move",
        "coins", "seed", "if", "then", "else", "loud", "day", "name", "a", "12", "99999", "0", ";", "=", "+", "-", "*",
        "/", "<", "(", ")", "A", "#", "longernameyet", "_", "\u00e9", "1000", "100", "((((((("};

    private final Random random;
    private int names;

    RandomTexts(Random random) {
        this.random = random;
    }

    private int among(int least, int most) {
        return least + random.nextInt(most - least + 1);
    }

    private boolean onceIn(int n) {
        return random.nextInt(n) == 0;
    }

    private String name() {
        names++;
        return "n" + (char) ('a' + names % 26) + "b";
    }

    String text() {
        List<String> tells = new ArrayList<>();
        names = 0;
        int noises = among(0, onceIn(8) ? 9 : 5);
        for (int i = 0; i < noises; i++) {
            tells.add(random.nextBoolean() ? clock() : chance());
        }
        int places = onceIn(12) ? 0 : among(1, onceIn(20) ? 5 : 4);
        for (int i = 0; i < places; i++) {
            tells.add(among(0, tells.size()), "place " + name() + " " + among(0, 9) + ";");
        }
        int shots = onceIn(12) ? 0 : among(1, onceIn(20) ? 7 : 6);
        for (int i = 0; i < shots; i++) {
            tells.add(among(0, tells.size()), "shot " + name() + " " + among(1, 9) + " " + among(0, 99) + ";");
        }
        for (String law : new String[] {"hear", "bears", "rustles"}) {
            if (random.nextBoolean()) {
                tells.add(among(0, tells.size()), law + law(law) + ";");
            }
        }
        addNumbers(tells);
        String text = String.join(onceIn(3) ? "\n" : " ", tells);
        if (onceIn(10)) {
            text = text.replace(" ", "\t\r\n ");
        }
        return onceIn(5) ? spoilt(text) : text;
    }

    private void addNumbers(List<String> tells) {
        if (random.nextBoolean()) {
            tells.add(among(0, tells.size()), "move " + among(0, onceIn(3) ? 99 : 12) + ";");
        }
        if (random.nextBoolean()) {
            tells.add(among(0, tells.size()), "coins " + among(0, onceIn(2) ? 9999 : 300) + ";");
        }
        if (random.nextBoolean()) {
            tells.add(among(0, tells.size()), "seed " + among(0, 9999) + ";");
        }
    }

    private String clock() {
        int every = onceIn(4) ? among(1, 999) : among(2, 60);
        int first = onceIn(3) ? among(0, 999) : among(0, 40);
        int lasts = onceIn(4) ? among(1, 99) : among(1, Math.max(1, Math.min(99, every / 2)));
        return "clock " + name() + " " + first + " " + every + " " + lasts + " " + among(0, 99) + " " + price() + ";";
    }

    private String chance() {
        int odds = onceIn(6) ? among(0, 100) : among(0, 9);
        int lasts = onceIn(3) ? among(1, 20) : among(1, 5);
        return "chance " + name() + " " + odds + " " + lasts + " " + among(0, 99) + " " + price() + ";";
    }

    private int price() {
        return onceIn(4) ? 0 : among(0, onceIn(3) ? 99 : 4);
    }

    private String law(String law) {
        StringBuilder text = new StringBuilder("=");
        int ifs = onceIn(3) ? among(0, onceIn(10) ? 5 : 4) : 0;
        for (int i = 0; i < ifs; i++) {
            text.append(" if ").append(sum(2)).append("<").append(sum(2));
            text.append(" then ").append(useful(law)).append(" else ");
        }
        return text.append(useful(law)).toString();
    }

    private String useful(String law) {
        if (onceIn(3)) {
            return sum(3);
        }
        switch (law) {
            case "hear":
                String[] hear = {"loud-far*" + among(0, 9), "loud/(1+age)", "loud*(lasts-age)/lasts", "loud/far",
                    "loud-which*3", "loud*(1+day/50)/3", "loud-(far-4)*(far-4)"};
                return hear[random.nextInt(hear.length)];
            case "bears":
                String[] bears = {"limit+second*" + among(0, 9), "limit-second", "limit/(which+1)", "limit+30-day/9",
                    "99-limit/(3-second)", "limit+20"};
                return bears[random.nextInt(bears.length)];
            default:
                String[] rustles = {"stood/" + among(0, 9), "stood/20-1", "stood*2", String.valueOf(among(0, 5)),
                    "100-day", "stood-60"};
                return rustles[random.nextInt(rustles.length)];
        }
    }

    private String sum(int depth) {
        StringBuilder text = new StringBuilder(unit(depth));
        for (int i = among(0, 2); i > 0; i--) {
            text.append("+-*/".charAt(random.nextInt(4))).append(onceIn(3) ? " " : "").append(unit(depth));
        }
        return text.toString();
    }

    private String unit(int depth) {
        if (depth > 0 && onceIn(4)) {
            return "(" + sum(depth - 1) + ")";
        }
        return random.nextBoolean() ? VARS[random.nextInt(VARS.length)]
            : String.valueOf(onceIn(4) ? among(0, 9999) : among(0, 12));
    }

    /** A NAME told twice, or a number that may be WRONG: no FAULT of the grammar. */
    private String misnumbered(String text) {
        String[] words = text.split(" ");
        int i = random.nextInt(words.length);
        for (int tries = 0; tries < 9 && !words[i].matches("n[a-z][a-z]|[0-9]{1,4}"); tries++) {
            i = random.nextInt(words.length);
        }
        if (words[i].matches("n[a-z][a-z]")) {
            words[i] = "nbb";
        } else if (words[i].matches("[0-9]{1,4}")) {
            words[i] = new String[] {"0", "10", "21", "100", "101", "1000", "9999"}[random.nextInt(7)];
        }
        return String.join(" ", words);
    }

    private String spoilt(String text) {
        StringBuilder spoilt = new StringBuilder(text);
        for (int i = among(1, 3); i > 0; i--) {
            int at = random.nextInt(spoilt.length() + 1);
            if (onceIn(3)) {
                spoilt = new StringBuilder(misnumbered(spoilt.toString()));
            } else if (random.nextBoolean()) {
                spoilt.insert(at, " " + STRAY[random.nextInt(STRAY.length)] + " ");
            } else if (random.nextBoolean()) {
                spoilt.delete(at, Math.min(spoilt.length(), at + among(1, 6)));
            } else {
                spoilt.insert(at, (char) random.nextInt(256));
            }
        }
        return onceIn(4) ? spoilt.append(' ').append(text).toString() : spoilt.toString();
    }
}
