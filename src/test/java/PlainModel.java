import java.util.ArrayDeque;
import java.util.ArrayList;
import java.util.Deque;
import java.util.HashMap;
import java.util.HashSet;
import java.util.List;
import java.util.Map;
import java.util.Set;

/** The document told as plainly as can be, with no thought of speed: what QuietTake is compared with. */
final class PlainModel {
    static final int NONE = -1;
    static final int NOT = -2;

    private record Noise(boolean clock, int first, int every, int lasts, int loud, int price) { }

    private record Shot(int length, int limit) { }

    private record Told(int place, int n, int noise) { }

    private record Token(String kind, String text, int place) { }

    private static final class Fault extends Exception {
        final int number;
        final int place;

        Fault(int number, int place) {
            this.number = number;
            this.place = place;
        }
    }

    private static final class DividedByZero extends Exception { }

    private interface Sum {
        int value(Map<String, Integer> vars) throws DividedByZero;
    }

    private record Branch(Sum less, Sum more, Sum then) { }

    private record Law(List<Branch> ifs, Sum last) {
        int tells(Map<String, Integer> vars) {
            try {
                for (Branch branch : ifs) {
                    if (branch.less.value(vars) < branch.more.value(vars)) {
                        return branch.then.value(vars);
                    }
                }
                return last.value(vars);
            } catch (DividedByZero e) {
                return 0;
            }
        }
    }

    private static final class Script {
        final List<Noise> noises = new ArrayList<>();
        final List<Integer> places = new ArrayList<>();
        final List<Shot> shots = new ArrayList<>();
        Law hear = new Law(List.of(), vars -> vars.getOrDefault("loud", 0));
        Law bears = new Law(List.of(), vars -> vars.getOrDefault("limit", 0));
        Law rustles = new Law(List.of(), vars -> 0);
        int move = 5;
        int coins = 50;
        int seed = 0;
    }

    private static final class Going {
        int second;
        int place;
        int stood;
        int coins;
        int[] paid = new int[8];
        int[] joined = new int[6];
        int[] taken = new int[6];
        int[] good = new int[6];

        Going copy() {
            Going copy = new Going();
            copy.second = second;
            copy.place = place;
            copy.stood = stood;
            copy.coins = coins;
            copy.paid = paid.clone();
            copy.joined = joined.clone();
            copy.taken = taken.clone();
            copy.good = good.clone();
            return copy;
        }
    }

    private final StringBuilder tape = new StringBuilder();
    private int faultPlace = NONE;
    private Script script = new Script();
    private Going going = new Going();
    private final Deque<Going> undos = new ArrayDeque<>();
    private final Going[] slots = new Going[3];
    private final List<Told> told = new ArrayList<>();
    // Of one call only: NOISE of a PLACE and a SECOND, with the PAID and the SEED of that call.
    private final Map<Long, Integer> noiseKept = new HashMap<>();

    PlainModel() {
        going.coins = 50;
    }

    // ---- the text

    int feed(int a, int b, int c, int d, int e) {
        if (tape.length() + 20 > 2000) {
            return NONE;
        }
        for (int word : new int[] {a, b, c, d, e}) {
            tape.append((char) (word >>> 24 & 255)).append((char) (word >>> 16 & 255));
            tape.append((char) (word >>> 8 & 255)).append((char) (word & 255));
        }
        return tape.length();
    }

    int back(int n) {
        if (n < 0 || n > tape.length()) {
            return NONE;
        }
        tape.setLength(tape.length() - n);
        return tape.length();
    }

    int read() {
        String text = tape.toString();
        tape.setLength(0);
        try {
            script = new Parser(text).script();
        } catch (Fault fault) {
            faultPlace = fault.place;
            return fault.number;
        }
        faultPlace = NONE;
        going = new Going();
        going.coins = script.coins;
        undos.clear();
        told.clear();
        slots[0] = null;
        slots[1] = null;
        slots[2] = null;
        return 0;
    }

    int place() {
        return faultPlace;
    }

    private static final class Parser {
        private static final Set<String> VARS =
            Set.of("loud", "age", "lasts", "far", "limit", "second", "stood", "which", "day");
        private static final Set<String> WORDS = new HashSet<>(Set.of("clock", "chance", "place", "shot", "hear",
            "bears", "rustles", "move", "coins", "seed", "if", "then", "else"));

        private final List<Token> tokens = new ArrayList<>();
        private final List<Fault> later = new ArrayList<>();
        private final Set<String> names = new HashSet<>();
        private int at;

        Parser(String text) {
            WORDS.addAll(VARS);
            int i = 0;
            while (i < text.length()) {
                int from = i;
                char c = text.charAt(i);
                if (c == 9 || c == 10 || c == 13 || c == 32) {
                    i++;
                    continue;
                }
                if (c >= 'a' && c <= 'z') {
                    while (i < text.length() && text.charAt(i) >= 'a' && text.charAt(i) <= 'z') {
                        i++;
                    }
                    String word = text.substring(from, i);
                    String kind = word.length() > 8 ? "none" : WORDS.contains(word) ? word : "NAME";
                    tokens.add(new Token(kind, word, from));
                } else if (c >= '0' && c <= '9') {
                    while (i < text.length() && text.charAt(i) >= '0' && text.charAt(i) <= '9') {
                        i++;
                    }
                    tokens.add(new Token(i - from > 4 ? "none" : "INT", text.substring(from, i), from));
                } else {
                    i++;
                    boolean sign = ";=+-*/<()".indexOf(c) >= 0;
                    tokens.add(new Token(sign ? String.valueOf(c) : "none", String.valueOf(c), from));
                }
            }
            tokens.add(new Token("end", "", text.length()));
        }

        private Token now() {
            return tokens.get(at);
        }

        private boolean sees(String kind) {
            return now().kind.equals(kind);
        }

        private Token want(String... kinds) throws Fault {
            Token token = now();
            for (String kind : kinds) {
                if (token.kind.equals(kind)) {
                    if (at == 400) {
                        throw new Fault(2, token.place);
                    }
                    at++;
                    return token;
                }
            }
            throw new Fault(1, token.place);
        }

        private int number(int least, int most) throws Fault {
            Token token = want("INT");
            int n = Integer.parseInt(token.text);
            if (n < least || n > most) {
                later.add(new Fault(5, token.place));
            }
            return n;
        }

        private void name() throws Fault {
            Token token = want("NAME");
            if (!names.add(token.text)) {
                later.add(new Fault(3, token.place));
            }
        }

        private void room(boolean thereIs) throws Fault {
            if (!thereIs) {
                throw new Fault(2, now().place);
            }
        }

        Script script() throws Fault {
            Script script = new Script();
            while (!sees("end")) {
                tellOne(script);
            }
            if (!later.isEmpty()) {
                throw later.get(0);
            }
            return script;
        }

        private void tellOne(Script script) throws Fault {
            boolean noise = sees("clock") || sees("chance");
            room(!(noise && script.noises.size() == 8));
            room(!(sees("place") && script.places.size() == 4));
            room(!(sees("shot") && script.shots.size() == 6));
            Token head = want("clock", "chance", "place", "shot", "hear", "bears", "rustles", "move", "coins", "seed");
            switch (head.kind) {
                case "clock" -> {
                    name();
                    script.noises.add(new Noise(true, number(0, 999), number(1, 999), number(1, 99), number(0, 99),
                        number(0, 99)));
                }
                case "chance" -> {
                    name();
                    script.noises.add(new Noise(false, 0, number(0, 100), number(1, 20), number(0, 99), number(0, 99)));
                }
                case "place" -> {
                    name();
                    script.places.add(number(0, 9));
                }
                case "shot" -> {
                    name();
                    script.shots.add(new Shot(number(1, 9), number(0, 99)));
                }
                case "hear" -> script.hear = law();
                case "bears" -> script.bears = law();
                case "rustles" -> script.rustles = law();
                case "move" -> script.move = number(0, 99);
                case "coins" -> script.coins = number(0, 9999);
                default -> script.seed = number(0, 9999);
            }
            want(";");
        }

        private Law law() throws Fault {
            want("=");
            List<Branch> ifs = new ArrayList<>();
            while (sees("if")) {
                room(ifs.size() < 4);
                want("if");
                Sum less = sum(0);
                want("<");
                Sum more = sum(0);
                want("then");
                Sum then = sum(0);
                want("else");
                ifs.add(new Branch(less, more, then));
            }
            return new Law(ifs, sum(0));
        }

        private Sum sum(int open) throws Fault {
            Sum all = part(open);
            while (sees("+") || sees("-")) {
                boolean plus = want("+", "-").kind.equals("+");
                Sum left = all;
                Sum right = part(open);
                all = vars -> plus ? left.value(vars) + right.value(vars) : left.value(vars) - right.value(vars);
            }
            return all;
        }

        private Sum part(int open) throws Fault {
            Sum all = unit(open);
            while (sees("*") || sees("/")) {
                boolean times = want("*", "/").kind.equals("*");
                Sum left = all;
                Sum right = unit(open);
                all = vars -> times ? left.value(vars) * right.value(vars) : over(left.value(vars), right.value(vars));
            }
            return all;
        }

        private static int over(int left, int right) throws DividedByZero {
            if (right == 0) {
                throw new DividedByZero();
            }
            return left / right;
        }

        private Sum unit(int open) throws Fault {
            if (sees("(")) {
                room(open < 6);
                want("(");
                Sum inside = sum(open + 1);
                want(")");
                return inside;
            }
            if (VARS.contains(now().kind)) {
                String var = want(now().kind).kind;
                return vars -> vars.getOrDefault(var, 0);
            }
            int n = Integer.parseInt(want("INT").text);
            return vars -> n;
        }
    }

    // ---- laws and noises

    private static int heldTo(int most, int n) {
        return n < 0 ? 0 : n > most ? most : n;
    }

    static int lot(int n, int seed, int which) {
        int h = seed;
        for (int it : new int[] {79, which}) {
            h = (h ^ it) * 1103515245 + 12345;
            h = h ^ (h >>> 15);
        }
        return (h >>> 1) % n;
    }

    private int age(int number, int t, int paidTill, int seed) {
        Noise noise = script.noises.get(number);
        if (paidTill > t) {
            return NOT;
        }
        if (noise.clock) {
            return t >= noise.first && (t - noise.first) % noise.every < noise.lasts
                ? (t - noise.first) % noise.every : NOT;
        }
        for (int age = 0; age < noise.lasts && t - age >= 0; age++) {
            if (lot(100, seed, 8 * (t - age) + number) < noise.every) {
                return age;
            }
        }
        return NOT;
    }

    private int heardAt(int number, int place, int t, int paidTill, int seed) {
        int age = age(number, t, paidTill, seed);
        if (age < 0 || place >= script.places.size()) {
            return 0;
        }
        Noise noise = script.noises.get(number);
        Map<String, Integer> vars = new HashMap<>();
        vars.put("loud", noise.loud);
        vars.put("age", age);
        vars.put("lasts", noise.lasts);
        vars.put("far", script.places.get(place));
        vars.put("which", number);
        vars.put("day", t);
        return heldTo(99, script.hear.tells(vars));
    }

    private int allHeard(int place, int t, int[] paid, int seed) {
        int greatest = 0;
        for (int i = 0; i < script.noises.size(); i++) {
            greatest = Math.max(greatest, heardAt(i, place, t, paid[i], seed));
        }
        return greatest;
    }

    private int rustling(int t, int seed) {
        int stood = going.stood + t - going.second;
        int odds = heldTo(100, script.rustles.tells(Map.of("stood", stood, "day", t)));
        return lot(100, seed, 8 * t + 4000000) < odds ? 50 : 0;
    }

    private int noiseAt(int place, int t, int[] paid, int seed) {
        return noiseKept.computeIfAbsent((long) place << 32 | t,
            key -> Math.max(allHeard(place, t, paid, seed), rustling(t, seed)));
    }

    private int borne(int shot, int second, int t) {
        int limit = script.shots.get(shot).limit;
        return heldTo(99, script.bears.tells(Map.of("limit", limit, "second", second, "which", shot, "day", t)));
    }

    private boolean clear(int shot, int second, int place, int t, int[] paid, int seed) {
        return noiseAt(place, t, paid, seed) <= borne(shot, second, t);
    }

    private int clearBits(int shot, int place, int from) {
        int bits = 0;
        for (int second = 0; second < script.shots.get(shot).length; second++) {
            if (clear(shot, second, place, from + second, going.paid, script.seed)) {
                bits |= 1 << second;
            }
        }
        return bits;
    }

    private boolean good(int shot, int place, int from, int[] paid, int seed) {
        for (int second = 0; second < script.shots.get(shot).length; second++) {
            if (!clear(shot, second, place, from + second, paid, seed)) {
                return false;
            }
        }
        return true;
    }

    /** Behind how many SECONDS, from one till another, a GOOD TAKE begins; NOT: never. */
    private int soonest(int shot, int place, int from, int till, int[] paid) {
        for (int n = from; n <= till; n++) {
            if (good(shot, place, going.second + n, paid, script.seed)) {
                return n;
            }
        }
        return NOT;
    }

    private boolean noNoise(int noise) {
        noiseKept.clear();
        return noise < 0 || noise >= script.noises.size();
    }

    private boolean noPlace(int place) {
        noiseKept.clear();
        return place < 0 || place >= script.places.size();
    }

    private boolean noShot(int shot) {
        noiseKept.clear();
        return shot < 0 || shot >= script.shots.size();
    }

    private static boolean out(int n, int least, int most) {
        return n < least || n > most;
    }

    private boolean done(int shot) {
        return going.joined[shot] == (1 << script.shots.get(shot).length) - 1;
    }

    // ---- what is asked of what is told

    int noise(int number, int what) {
        if (noNoise(number) || out(what, 0, 8)) {
            return NONE;
        }
        Noise noise = script.noises.get(number);
        int age = age(number, going.second, going.paid[number], script.seed);
        return new int[] {noise.clock ? 1 : 0, noise.lasts, noise.loud, noise.price, age >= 0 ? 1 : 0, age,
            going.paid[number], noise.first, noise.every}[what];
    }

    int shot(int number, int what) {
        if (noShot(number) || out(what, 0, 5)) {
            return NONE;
        }
        Shot shot = script.shots.get(number);
        return new int[] {shot.length, shot.limit, going.joined[number], done(number) ? 1 : 0, going.taken[number],
            going.good[number]}[what];
    }

    int heard(int noise, int place, int n) {
        if (noNoise(noise) || noPlace(place) || out(n, 0, 300)) {
            return NONE;
        }
        return heardAt(noise, place, going.second + n, going.paid[noise], script.seed);
    }

    int loud(int place, int n) {
        return noPlace(place) || out(n, 0, 300) ? NONE : noiseIn(place, n);
    }

    private int noiseIn(int place, int n) {
        return noiseAt(place, going.second + n, going.paid, script.seed);
    }

    int bears(int shot, int second) {
        if (noShot(shot) || out(second, 0, script.shots.get(shot).length - 1)) {
            return NONE;
        }
        return borne(shot, second, going.second + second);
    }

    // ---- what is done by hand

    private void doing() {
        undos.push(going.copy());
        if (undos.size() > 40) {
            undos.removeLast();
        }
    }

    int take(int shot) {
        if (noShot(shot)) {
            return NONE;
        }
        if (script.places.isEmpty()) {
            return NOT;
        }
        int bits = clearBits(shot, going.place, going.second);
        int length = script.shots.get(shot).length;
        doing();
        going.joined[shot] |= bits;
        going.taken[shot]++;
        going.good[shot] += bits == (1 << length) - 1 ? 1 : 0;
        going.second += length;
        going.stood += length;
        return bits;
    }

    int waits(int n) {
        if (out(n, 0, 300)) {
            return NONE;
        }
        if (n != 0) {
            doing();
        }
        going.second += n;
        going.stood += n;
        return going.second;
    }

    int rests(int n) {
        if (out(n, 1, 300)) {
            return NONE;
        }
        doing();
        going.second += n;
        going.stood = 0;
        return going.second;
    }

    int moves(int place) {
        if (noPlace(place)) {
            return NONE;
        }
        if (place == going.place) {
            return NOT;
        }
        doing();
        going.place = place;
        going.second += script.move;
        going.stood += script.move;
        return going.second;
    }

    int pay(int noise, int n) {
        if (noNoise(noise) || out(n, 1, 300)) {
            return NONE;
        }
        int price = script.noises.get(noise).price * n;
        if (price > going.coins) {
            return NOT;
        }
        doing();
        going.coins -= price;
        going.paid[noise] = going.paid[noise] > going.second ? going.paid[noise] + n : going.second + n;
        return going.coins;
    }

    boolean undo() {
        if (undos.isEmpty()) {
            return false;
        }
        going = undos.pop();
        return true;
    }

    // ---- what would be

    private int greatest(int place, int from, int n) {
        int greatest = 0;
        for (int i = from; i < from + n; i++) {
            greatest = Math.max(greatest, noiseIn(place, i));
        }
        return greatest;
    }

    int hole(int place, int n, int limit) {
        if (noPlace(place) || out(n, 1, 30) || out(limit, 0, 99)) {
            return NONE;
        }
        for (int begin = 0; begin <= 300; begin++) {
            if (greatest(place, begin, n) <= limit) {
                return begin;
            }
        }
        return NOT;
    }

    int holes(int place, int n, int limit) {
        if (noPlace(place) || out(n, 1, 30) || out(limit, 0, 99)) {
            return NONE;
        }
        int holes = 0;
        for (int begin = 0; begin <= 299; begin++) {
            holes += greatest(place, begin, n) <= limit ? 1 : 0;
        }
        return holes;
    }

    int softest(int place, int n, int what) {
        if (noPlace(place) || out(n, 1, 30) || out(what, 0, 1)) {
            return NONE;
        }
        int best = 0;
        for (int begin = 1; begin <= 300; begin++) {
            best = greatest(place, begin, n) < greatest(place, best, n) ? begin : best;
        }
        return what == 0 ? greatest(place, best, n) : best;
    }

    int next(int noise) {
        if (noNoise(noise)) {
            return NONE;
        }
        for (int n = 0; n <= 300; n++) {
            if (age(noise, going.second + n, going.paid[noise], script.seed) >= 0) {
                return n;
            }
        }
        return NOT;
    }

    int loudest(int noise, int place) {
        if (noNoise(noise) || noPlace(place)) {
            return NONE;
        }
        int seconds = 0;
        for (int n = 0; n < 300; n++) {
            int mine = heard(noise, place, n);
            boolean most = mine > 0;
            for (int other = 0; other < script.noises.size(); other++) {
                int its = heard(other, place, n);
                most &= other == noise || its < mine || its == mine && other > noise;
            }
            seconds += most ? 1 : 0;
        }
        return seconds;
    }

    int peak(int place, int what) {
        if (noPlace(place) || out(what, 0, 1)) {
            return NONE;
        }
        int most = greatest(place, 0, 300);
        for (int n = 0; n < 300; n++) {
            if (noiseIn(place, n) == most) {
                return what == 0 ? most : n;
            }
        }
        throw new IllegalStateException("no second has the peak");
    }

    int calmest(int n) {
        noiseKept.clear();
        if (out(n, 1, 300)) {
            return NONE;
        }
        if (script.places.isEmpty()) {
            return NOT;
        }
        int best = 0;
        for (int place = 1; place < script.places.size(); place++) {
            best = greatest(place, 0, n) < greatest(best, 0, n) ? place : best;
        }
        return best;
    }

    int ours(int place) {
        if (noPlace(place)) {
            return NONE;
        }
        int seconds = 0;
        for (int t = going.second; t < going.second + 300; t++) {
            seconds += rustling(t, script.seed) > allHeard(place, t, going.paid, script.seed) ? 1 : 0;
        }
        return seconds;
    }

    int best(int shot, int what) {
        if (noShot(shot) || out(what, 0, 1)) {
            return NONE;
        }
        int where = NOT;
        int when = NOT;
        for (int place = 0; place < script.places.size(); place++) {
            int begin = soonest(shot, place, place == going.place ? 0 : script.move, 300, going.paid);
            if (begin >= 0 && (where < 0 || begin < when)) {
                where = place;
                when = begin;
            }
        }
        return what == 0 ? where : when;
    }

    private List<Integer> ordered() {
        List<Integer> shots = new ArrayList<>();
        for (int shot = 0; shot < script.shots.size() && shots.size() < 5; shot++) {
            if (!done(shot)) {
                shots.add(shot);
            }
        }
        return shots;
    }

    /** The orders of some SHOTS, the least ones first. */
    private static List<List<Integer>> orders(List<Integer> shots) {
        List<List<Integer>> orders = new ArrayList<>();
        if (shots.isEmpty()) {
            orders.add(List.of());
        }
        for (Integer head : shots) {
            List<Integer> rest = new ArrayList<>(shots);
            rest.remove(head);
            for (List<Integer> tail : orders(rest)) {
                List<Integer> order = new ArrayList<>();
                order.add(head);
                order.addAll(tail);
                orders.add(order);
            }
        }
        return orders;
    }

    private int endOf(List<Integer> order, Map<List<Integer>, Integer> begins) {
        int end = 0;
        for (int shot : order) {
            int from = end;
            int begin = begins.computeIfAbsent(List.of(shot, from),
                key -> soonest(shot, going.place, from, from + 300, going.paid));
            if (begin < 0) {
                return NOT;
            }
            end = begin + script.shots.get(shot).length;
        }
        return end;
    }

    int order(int i) {
        noiseKept.clear();
        List<Integer> shots = ordered();
        if (i < NONE || i >= shots.size()) {
            return NONE;
        }
        if (script.places.isEmpty()) {
            return NOT;
        }
        List<Integer> best = null;
        Map<List<Integer>, Integer> begins = new HashMap<>();
        for (List<Integer> order : orders(shots)) {
            int end = endOf(order, begins);
            if (end >= 0 && (best == null || end < endOf(best, begins))) {
                best = order;
            }
        }
        if (best == null) {
            return NOT;
        }
        return i == NONE ? endOf(best, begins) : best.get(i);
    }

    int bribe(int shot, int what) {
        if (noShot(shot) || out(what, 0, 1)) {
            return NONE;
        }
        int now = soonest(shot, going.place, 0, 300, going.paid);
        now = now < 0 ? 301 : now;
        int whom = NOT;
        int when = now;
        for (int noise = 0; noise < script.noises.size(); noise++) {
            noiseKept.clear();
            int[] paid = going.paid.clone();
            paid[noise] = Math.max(paid[noise], going.second + 300);
            int begin = soonest(shot, going.place, 0, 300, paid);
            if (begin >= 0 && begin < when) {
                whom = noise;
                when = begin;
            }
        }
        return whom < 0 ? NOT : what == 0 ? whom : now - when;
    }

    int cellar(int n, int what) {
        noiseKept.clear();
        if (out(n, 0, 2000) || out(what, 0, 1)) {
            return NONE;
        }
        if (script.places.isEmpty()) {
            return NOT;
        }
        List<Integer> shots = ordered();
        Map<List<Integer>, Integer> begins = new HashMap<>();
        int best = NOT;
        for (int bits = 0; bits < 64; bits++) {
            List<Integer> others = new ArrayList<>();
            int stray = bits;
            for (int shot : shots) {
                if ((bits >> shot & 1) == 0) {
                    others.add(shot);
                }
                stray &= ~(1 << shot);
            }
            if (stray != 0 || best >= 0 && Integer.bitCount(bits) >= Integer.bitCount(best)) {
                continue;
            }
            for (List<Integer> order : orders(others)) {
                int end = endOf(order, begins);
                if (end >= 0 && end <= n) {
                    best = bits;
                    break;
                }
            }
        }
        return what == 0 ? Integer.bitCount(best) : best;
    }

    int cheapest(int shot, int what) {
        if (noShot(shot) || out(what, 0, 1)) {
            return NONE;
        }
        if (script.places.isEmpty()) {
            return NOT;
        }
        int length = script.shots.get(shot).length;
        int best = NOT;
        int least = 0;
        for (int bits = 0; bits < 1 << script.noises.size(); bits++) {
            noiseKept.clear();
            int[] paid = going.paid.clone();
            int coins = 0;
            for (int noise = 0; noise < script.noises.size(); noise++) {
                if ((bits >> noise & 1) != 0) {
                    coins += script.noises.get(noise).price * length;
                    paid[noise] = Math.max(paid[noise], going.second) + length;
                }
            }
            if ((best < 0 || coins < least) && good(shot, going.place, going.second, paid, script.seed)) {
                best = bits;
                least = coins;
            }
        }
        return best < 0 ? NOT : what == 0 ? least : best;
    }

    int breakOff(int shot, int n) {
        if (noShot(shot) || out(n, 0, 300)) {
            return NONE;
        }
        if (script.places.isEmpty()) {
            return NOT;
        }
        int bits = clearBits(shot, going.place, going.second + n);
        for (int second = 0; second < script.shots.get(shot).length; second++) {
            if ((bits >> second & 1) == 0) {
                return second;
            }
        }
        return NOT;
    }

    int join(int shot) {
        if (noShot(shot)) {
            return NONE;
        }
        if (script.places.isEmpty()) {
            return NOT;
        }
        int length = script.shots.get(shot).length;
        int bits = going.joined[shot];
        for (int takes = 0; takes <= 20; takes++) {
            if (bits == (1 << length) - 1) {
                return takes;
            }
            bits |= clearBits(shot, going.place, going.second + takes * length);
        }
        return NOT;
    }

    int odds(int shot, int n, int s) {
        if (noShot(shot) || out(n, 0, 300) || out(s, 1, 20)) {
            return NONE;
        }
        if (script.places.isEmpty()) {
            return 0;
        }
        int good = 0;
        for (int seed = script.seed; seed < script.seed + s; seed++) {
            noiseKept.clear();
            good += good(shot, going.place, going.second + n, going.paid, seed) ? 1 : 0;
        }
        return good;
    }

    // ---- what is told of a track, and what is held

    int tell(int place, int n, int noise) {
        if (noPlace(place) || out(n, 0, 99) || out(noise, 0, 99) || told.size() == 20) {
            return NONE;
        }
        told.add(new Told(place, n, noise));
        return told.size() - 1;
    }

    int forget() {
        int size = told.size();
        told.clear();
        return size;
    }

    int when(int k, int i) {
        if (out(k, 0, told.size()) || i < NONE) {
            return NONE;
        }
        List<Integer> begins = new ArrayList<>();
        for (int begin = 0; begin <= 999; begin++) {
            boolean so = true;
            for (Told one : told.subList(0, k)) {
                so = so && allHeard(one.place, begin + one.n, new int[8], script.seed) == one.noise;
            }
            if (so) {
                begins.add(begin);
            }
        }
        return i == NONE ? begins.size() : i < begins.size() ? begins.get(i) : NONE;
    }

    boolean hold(int slot) {
        if (out(slot, 0, 2)) {
            return false;
        }
        slots[slot] = going.copy();
        return true;
    }

    boolean restore(int slot) {
        if (out(slot, 0, 2) || slots[slot] == null) {
            return false;
        }
        going = slots[slot].copy();
        undos.clear();
        return true;
    }

    int count(int what) {
        int doneBits = 0;
        int takes = 0;
        for (int shot = 0; shot < script.shots.size(); shot++) {
            doneBits |= done(shot) ? 1 << shot : 0;
            takes += going.taken[shot];
        }
        int onBits = 0;
        for (int noise = 0; noise < script.noises.size(); noise++) {
            onBits |= age(noise, going.second, going.paid[noise], script.seed) >= 0 ? 1 << noise : 0;
        }
        int held = 0;
        for (Going slot : slots) {
            held += slot != null ? 1 : 0;
        }
        int[] counts = {script.noises.size(), script.places.size(), script.shots.size(), going.second, going.place,
            going.stood, going.coins, doneBits, takes, tape.length(), undos.size(), told.size(), held, onBits};
        return what < 0 || what >= counts.length ? NONE : counts[what];
    }
}
