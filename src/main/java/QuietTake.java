import java.util.Arrays;

/** Quiet on the set: what is heard when, what shots bear, and what would be if one waited, moved or paid. */
public final class QuietTake {
    public static final int NONE = -1;

    /** The answer where the arguments are fine, but what they ask for is not to be had. */
    private static final int NOT = -2;

    private static final int MOST_NOISES = 8;
    private static final int MOST_PLACES = 4;
    private static final int MOST_SHOTS = 6;
    private static final int MOST_SLOTS = 3;
    private static final int LONGEST_SHOT = 9;
    private static final int LONGEST_HOLE = 30;
    private static final int LOUDEST_NOISE = 99;
    private static final int MOST_JOINED_TAKES = 20;
    private static final int MOST_SEEDS = 20;
    private static final int LATEST_CELLAR = 2000;

    /** How many SECONDS one looks ahead, waits, rests or pays at most. */
    private static final int AHEAD = 300;

    // The kinds of TOKENS: a word's kind is where it stands in Tokens.WORDS, a sign's is its own character.
    private static final int CLOCK = 0;
    private static final int CHANCE = 1;
    private static final int PLACE = 2;
    private static final int SHOT = 3;
    private static final int HEAR = 4;
    private static final int BEARS = 5;
    private static final int RUSTLES = 6;
    private static final int MOVE = 7;
    private static final int COINS = 8;
    private static final int SEED = 9;
    private static final int IF = 10;
    private static final int THEN = 11;
    private static final int ELSE = 12;
    private static final int LOUD = 13;
    private static final int AGE = 14;
    private static final int LASTS = 15;
    private static final int FAR = 16;
    private static final int LIMIT = 17;
    private static final int SECOND = 18;
    private static final int STOOD = 19;
    private static final int WHICH = 20;
    private static final int DAY = 21;
    private static final int NAME = 22;
    private static final int INT = 23;
    private static final int END = 24;
    private static final int BAD = 25;

    private final Tape tape;
    private final Tokens tokens;
    private final Reader reader;
    private final Script script;
    private final State state;
    private final History history;
    private final State[] slots;
    private int heldSlots;
    private final Ears ears;
    private final Survey survey;
    private final Plan plan;
    private final Track track;

    public QuietTake() {
        tape = new Tape();
        tokens = new Tokens();
        reader = new Reader(tokens);
        script = new Script();
        state = new State();
        history = new History();
        slots = new State[MOST_SLOTS];
        for (int slot = 0; slot < MOST_SLOTS; slot++) {
            slots[slot] = new State();
        }
        ears = new Ears(script);
        survey = new Survey(script, state, ears);
        plan = new Plan(script, state, survey);
        track = new Track(script, ears);
        beginAnew();
    }

    public int feed(int a, int b, int c, int d, int e) {
        if (tape.length + Tape.FED > Tape.ROOM) {
            return NONE;
        }
        tape.add(a);
        tape.add(b);
        tape.add(c);
        tape.add(d);
        tape.add(e);
        return tape.length;
    }

    public int back(int n) {
        if (n < 0 || n > tape.length) {
            return NONE;
        }
        tape.length -= n;
        return tape.length;
    }

    public int read() {
        tokens.cut(tape);
        tape.length = 0;
        reader.check();
        if (reader.fault == 0) {
            script.learn(tokens);
            beginAnew();
        }
        return reader.fault;
    }

    public int place() {
        return reader.faultPlace;
    }

    public int noise(int noise, int what) {
        if (!isNoise(noise)) {
            return NONE;
        }
        switch (what) {
            case 0:
                return script.clock[noise] ? 1 : 0;
            case 1:
                return script.lasts[noise];
            case 2:
                return script.loudness[noise];
            case 3:
                return script.price[noise];
            case 4:
                return ageNow(noise) < 0 ? 0 : 1;
            case 5:
                return ageNow(noise);
            case 6:
                return state.paid[noise];
            case 7:
                return script.first[noise];
            case 8:
                return script.every[noise];
            default:
                return NONE;
        }
    }

    public int shot(int shot, int what) {
        if (!isShot(shot)) {
            return NONE;
        }
        switch (what) {
            case 0:
                return script.lengths[shot];
            case 1:
                return script.limits[shot];
            case 2:
                return state.joined[shot];
            case 3:
                return state.isDone(shot, script) ? 1 : 0;
            case 4:
                return state.taken[shot];
            case 5:
                return state.good[shot];
            default:
                return NONE;
        }
    }

    public int heard(int noise, int place, int n) {
        if (!isNoise(noise) || !isPlace(place) || !within(n, 0, AHEAD)) {
            return NONE;
        }
        return survey.heardOf(noise, place, n);
    }

    public int loud(int place, int n) {
        if (!isPlace(place) || !within(n, 0, AHEAD)) {
            return NONE;
        }
        survey.face(place);
        return survey.noiseAt(n);
    }

    public int bears(int shot, int second) {
        if (!isShot(shot) || !within(second, 0, script.lengths[shot] - 1)) {
            return NONE;
        }
        return ears.borne(shot, second, state.second + second);
    }

    public int take(int shot) {
        if (!isShot(shot)) {
            return NONE;
        }
        if (script.places == 0) {
            return NOT;
        }
        survey.face(state.place);
        int clear = survey.clearSeconds(shot, 0);
        beforeChange();
        state.addTake(shot, clear, script.allSeconds(shot));
        state.stand(script.lengths[shot]);
        return clear;
    }

    public int waits(int n) {
        if (!within(n, 0, AHEAD)) {
            return NONE;
        }
        if (n > 0) {
            beforeChange();
            state.stand(n);
        }
        return state.second;
    }

    public int rests(int n) {
        if (!within(n, 1, AHEAD)) {
            return NONE;
        }
        beforeChange();
        state.second += n;
        state.stood = 0;
        return state.second;
    }

    public int moves(int place) {
        if (!isPlace(place)) {
            return NONE;
        }
        if (place == state.place) {
            return NOT;
        }
        beforeChange();
        state.place = place;
        state.stand(script.move);
        return state.second;
    }

    public int pay(int noise, int n) {
        if (!isNoise(noise) || !within(n, 1, AHEAD)) {
            return NONE;
        }
        int cost = script.price[noise] * n;
        if (cost > state.coins) {
            return NOT;
        }
        beforeChange();
        state.coins -= cost;
        state.paid[noise] = Math.max(state.paid[noise], state.second) + n;
        return state.coins;
    }

    public boolean undo() {
        if (history.size == 0) {
            return false;
        }
        history.pop(state);
        survey.drop();
        return true;
    }

    public int hole(int place, int n, int limit) {
        if (!isHole(place, n, limit)) {
            return NONE;
        }
        survey.face(place);
        int quiet = 0;
        for (int offset = 0; offset < AHEAD + n; offset++) {
            quiet = survey.noiseAt(offset) <= limit ? quiet + 1 : 0;
            if (quiet == n) {
                return offset - n + 1;
            }
        }
        return NOT;
    }

    public int holes(int place, int n, int limit) {
        if (!isHole(place, n, limit)) {
            return NONE;
        }
        survey.face(place);
        int quiet = 0;
        int begins = 0;
        for (int offset = 0; offset < AHEAD - 1 + n; offset++) {
            quiet = survey.noiseAt(offset) <= limit ? quiet + 1 : 0;
            if (quiet >= n) {
                begins++;
            }
        }
        return begins;
    }

    public int softest(int place, int n, int what) {
        if (!isPlace(place) || !within(n, 1, LONGEST_HOLE) || !within(what, 0, 1)) {
            return NONE;
        }
        survey.face(place);
        int least = LOUDEST_NOISE + 1;
        int begin = 0;
        for (int offset = 0; offset <= AHEAD; offset++) {
            int greatest = survey.greatest(offset, n, least);
            if (greatest < least) {
                least = greatest;
                begin = offset;
            }
        }
        return what == 0 ? least : begin;
    }

    public int next(int noise) {
        if (!isNoise(noise)) {
            return NONE;
        }
        for (int offset = 0; offset <= AHEAD; offset++) {
            if (ears.ageOf(noise, state.second + offset, state.paid[noise]) >= 0) {
                return offset;
            }
        }
        return NOT;
    }

    public int loudest(int noise, int place) {
        if (!isNoise(noise) || !isPlace(place)) {
            return NONE;
        }
        survey.face(place);
        int seconds = 0;
        for (int offset = 0; offset < AHEAD; offset++) {
            if (Survey.leaderOf(survey.soundAt(offset)) == noise) {
                seconds++;
            }
        }
        return seconds;
    }

    public int peak(int place, int what) {
        if (!isPlace(place) || !within(what, 0, 1)) {
            return NONE;
        }
        survey.face(place);
        int greatest = survey.greatest(0, AHEAD, LOUDEST_NOISE);
        int offset = 0;
        while (offset < AHEAD && survey.noiseAt(offset) < greatest) {
            offset++;
        }
        return what == 0 ? greatest : offset;
    }

    public int calmest(int n) {
        if (!within(n, 1, AHEAD)) {
            return NONE;
        }
        int calmest = NOT;
        int least = LOUDEST_NOISE + 1;
        for (int place = 0; place < script.places; place++) {
            survey.face(place);
            int greatest = survey.greatest(0, n, least);
            if (greatest < least) {
                least = greatest;
                calmest = place;
            }
        }
        return calmest;
    }

    public int ours(int place) {
        if (!isPlace(place)) {
            return NONE;
        }
        survey.face(place);
        int seconds = 0;
        for (int offset = 0; offset < AHEAD; offset++) {
            int sound = survey.soundAt(offset);
            if (Survey.rustlingOf(sound) > Survey.topOf(sound)) {
                seconds++;
            }
        }
        return seconds;
    }

    public int best(int shot, int what) {
        if (!isShot(shot) || !within(what, 0, 1)) {
            return NONE;
        }
        int where = NOT;
        int soonest = AHEAD + 1;
        for (int place = 0; place < script.places; place++) {
            survey.face(place);
            int earliest = place == state.place ? 0 : script.move;
            int begin = survey.firstGood(shot, earliest, soonest - 1);
            if (begin >= 0) {
                where = place;
                soonest = begin;
            }
        }
        if (where < 0) {
            return NOT;
        }
        return what == 0 ? where : soonest;
    }

    public int order(int i) {
        plan.gather();
        if (i < NONE || i >= plan.size) {
            return NONE;
        }
        if (script.places == 0) {
            return NOT;
        }
        survey.face(state.place);
        plan.visit(0, 0, 0);
        if (plan.ends[plan.all()] == Plan.NEVER) {
            return NOT;
        }
        return i == NONE ? plan.ends[plan.all()] : plan.order[i];
    }

    public int bribe(int shot, int what) {
        if (!isShot(shot) || !within(what, 0, 1)) {
            return NONE;
        }
        if (script.places == 0) {
            return NOT;
        }
        survey.face(state.place);
        int unpaid = survey.firstGood(shot, 0, AHEAD);
        if (unpaid < 0) {
            unpaid = AHEAD + 1;
        }
        int whom = NOT;
        int soonest = unpaid;
        for (int noise = 0; noise < script.noises; noise++) {
            int begin = survey.firstGoodWithout(noise, shot, soonest - 1);
            if (begin >= 0) {
                whom = noise;
                soonest = begin;
            }
        }
        if (whom < 0) {
            return NOT;
        }
        return what == 0 ? whom : unpaid - soonest;
    }

    public int cellar(int n, int what) {
        if (!within(n, 0, LATEST_CELLAR) || !within(what, 0, 1)) {
            return NONE;
        }
        if (script.places == 0) {
            return NOT;
        }
        plan.gather();
        survey.face(state.place);
        plan.visit(0, 0, 0);
        int left = plan.fewestLeft(n);
        return what == 0 ? Integer.bitCount(left) : plan.shotBits(left);
    }

    public int cheapest(int shot, int what) {
        if (!isShot(shot) || !within(what, 0, 1)) {
            return NONE;
        }
        if (script.places == 0) {
            return NOT;
        }
        survey.face(state.place);
        int tooLoud = survey.tooLoud(shot);
        if (tooLoud < 0) {
            return NOT;
        }
        return what == 0 ? script.priceOf(tooLoud) * script.lengths[shot] : tooLoud;
    }

    public int breakOff(int shot, int n) {
        if (!isShot(shot) || !within(n, 0, AHEAD)) {
            return NONE;
        }
        if (script.places == 0) {
            return NOT;
        }
        survey.face(state.place);
        int second = survey.firstUnclear(shot, n, NONE);
        return second < 0 ? NOT : second;
    }

    public int join(int shot) {
        if (!isShot(shot)) {
            return NONE;
        }
        if (script.places == 0) {
            return NOT;
        }
        survey.face(state.place);
        int all = script.allSeconds(shot);
        int joined = state.joined[shot];
        int takes = 0;
        while (joined != all && takes < MOST_JOINED_TAKES) {
            joined |= survey.clearSeconds(shot, takes * script.lengths[shot]);
            takes++;
        }
        return joined == all ? takes : NOT;
    }

    public int odds(int shot, int n, int s) {
        if (!isShot(shot) || !within(n, 0, AHEAD) || !within(s, 1, MOST_SEEDS)) {
            return NONE;
        }
        if (script.places == 0) {
            return 0;
        }
        int good = 0;
        for (int i = 0; i < s; i++) {
            ears.tune(script.seed + i);
            survey.drop();
            survey.face(state.place);
            if (survey.firstUnclear(shot, n, NONE) < 0) {
                good++;
            }
        }
        ears.tune(script.seed);
        survey.drop();
        return good;
    }

    public int tell(int place, int n, int noise) {
        if (!isPlace(place) || !within(n, 0, Track.LATEST) || !within(noise, 0, LOUDEST_NOISE)) {
            return NONE;
        }
        if (track.size >= Track.ROOM) {
            return NONE;
        }
        track.add(place, n, noise);
        return track.size - 1;
    }

    public int forget() {
        int forgotten = track.size;
        track.clear();
        return forgotten;
    }

    public int when(int k, int i) {
        if (!within(k, 0, track.size) || i < NONE) {
            return NONE;
        }
        return i == NONE ? track.howMany(k) : track.which(k, i);
    }

    public boolean hold(int slot) {
        if (!within(slot, 0, MOST_SLOTS - 1)) {
            return false;
        }
        slots[slot].copy(state);
        heldSlots |= 1 << slot;
        return true;
    }

    public boolean restore(int slot) {
        if (!within(slot, 0, MOST_SLOTS - 1) || (heldSlots >> slot & 1) == 0) {
            return false;
        }
        state.copy(slots[slot]);
        history.size = 0;
        survey.drop();
        return true;
    }

    public int count(int what) {
        switch (what) {
            case 0:
                return script.noises;
            case 1:
                return script.places;
            case 2:
                return script.shots;
            case 3:
                return state.second;
            case 4:
                return state.place;
            case 5:
                return state.stood;
            case 6:
                return state.coins;
            case 7:
                return doneBits();
            case 8:
                return state.allTakes();
            case 9:
                return tape.length;
            case 10:
                return history.size;
            case 11:
                return track.size;
            case 12:
                return Integer.bitCount(heldSlots);
            case 13:
                return onBits();
            default:
                return NONE;
        }
    }

    private void beginAnew() {
        state.clear(script.coins);
        history.size = 0;
        heldSlots = 0;
        track.clear();
        ears.tune(script.seed);
        survey.drop();
    }

    private void beforeChange() {
        history.push(state);
        survey.drop();
    }

    private boolean isNoise(int noise) {
        return within(noise, 0, script.noises - 1);
    }

    private boolean isPlace(int place) {
        return within(place, 0, script.places - 1);
    }

    private boolean isShot(int shot) {
        return within(shot, 0, script.shots - 1);
    }

    private boolean isHole(int place, int n, int limit) {
        return isPlace(place) && within(n, 1, LONGEST_HOLE) && within(limit, 0, LOUDEST_NOISE);
    }

    private int ageNow(int noise) {
        return ears.ageOf(noise, state.second, state.paid[noise]);
    }

    private int doneBits() {
        int bits = 0;
        for (int shot = 0; shot < script.shots; shot++) {
            if (state.isDone(shot, script)) {
                bits |= 1 << shot;
            }
        }
        return bits;
    }

    private int onBits() {
        int bits = 0;
        for (int noise = 0; noise < script.noises; noise++) {
            if (ageNow(noise) >= 0) {
                bits |= 1 << noise;
            }
        }
        return bits;
    }

    private static boolean within(int n, int least, int most) {
        return n >= least && n <= most;
    }

    /** The bytes fed and not yet read. */
    private static final class Tape {
        static final int ROOM = 2000;
        static final int FED = 20;

        final byte[] bytes = new byte[ROOM];
        int length;

        void add(int fourBytes) {
            for (int shift = 24; shift >= 0 && length < ROOM; shift -= 8) {
                bytes[length] = (byte) (fourBytes >>> shift);
                length++;
            }
        }

        int byteAt(int i) {
            return i >= 0 && i < length && i < ROOM ? bytes[i] & 255 : 0;
        }
    }

    /** The TOKENS of a text, and what is none of them: kinds, places and values. */
    private static final class Tokens {
        static final int MOST = 400;

        private static final int WORD_ROOM = 8;
        private static final String WORDS = "clock   chance  place   shot    hear    bears   rustles move    coins   seed    if      then    else    loud    age     lasts   far     limit   second  stood   which   day     ";
        private static final String SIGNS = ";=+-*/<()";
        private static final int MOST_LETTERS = 8;
        private static final int MOST_DIGITS = 4;

        private static final int LETTER = 0;
        private static final int DIGIT = 1;
        private static final int BLANK = 2;
        private static final int OTHER = 3;

        // One more than a text may have: the FAULT at the 401st depends on its kind.
        private final int[] kinds = new int[MOST + 1];
        private final int[] places = new int[MOST + 1];
        private final long[] values = new long[MOST + 1];
        private int textLength;
        int size;

        void cut(Tape tape) {
            size = 0;
            textLength = tape.length;
            int at = 0;
            while (at < textLength && size < kinds.length) {
                int sort = sortOf(tape.byteAt(at));
                int run = runFrom(tape, at, sort);
                if (sort != BLANK) {
                    kinds[size] = kindOf(tape, at, run, sort);
                    places[size] = at;
                    values[size] = valueOf(tape, at, run, sort);
                    size++;
                }
                at += Math.max(1, run);
            }
        }

        int kindAt(int i) {
            return i >= 0 && i < size ? kinds[i] : END;
        }

        int placeAt(int i) {
            return i >= 0 && i < size ? places[i] : textLength;
        }

        long valueAt(int i) {
            return i >= 0 && i < size ? values[i] : 0;
        }

        int intAt(int i) {
            return (int) valueAt(i);
        }

        private static int sortOf(int sign) {
            if (sign >= 'a' && sign <= 'z') {
                return LETTER;
            }
            if (sign >= '0' && sign <= '9') {
                return DIGIT;
            }
            return sign == 9 || sign == 10 || sign == 13 || sign == 32 ? BLANK : OTHER;
        }

        private static int runFrom(Tape tape, int at, int sort) {
            int run = 1;
            while (sort != OTHER && at + run < tape.length && sortOf(tape.byteAt(at + run)) == sort) {
                run++;
            }
            return run;
        }

        private static int kindOf(Tape tape, int at, int run, int sort) {
            if (sort == LETTER) {
                return run > MOST_LETTERS ? BAD : wordOrName(tape, at, run);
            }
            if (sort == DIGIT) {
                return run > MOST_DIGITS ? BAD : INT;
            }
            int sign = tape.byteAt(at);
            return SIGNS.indexOf((char) sign) >= 0 ? sign : BAD;
        }

        private static int wordOrName(Tape tape, int at, int run) {
            for (int word = 0; word < NAME; word++) {
                if (isWord(word, tape, at, run)) {
                    return word;
                }
            }
            return NAME;
        }

        private static boolean isWord(int word, Tape tape, int at, int run) {
            int from = word * WORD_ROOM;
            if (from + WORD_ROOM > WORDS.length()) {
                return false;
            }
            for (int i = 0; i < WORD_ROOM; i++) {
                int sign = i < run ? tape.byteAt(at + i) : ' ';
                if (WORDS.charAt(from + i) != sign) {
                    return false;
                }
            }
            return true;
        }

        /** An INT's number; of letters a number that no other NAME has. */
        private static long valueOf(Tape tape, int at, int run, int sort) {
            long value = 0;
            for (int i = 0; i < run && i < MOST_LETTERS; i++) {
                int sign = tape.byteAt(at + i);
                value = sort == DIGIT ? value * 10 + sign - '0' : value * 32 + sign - 'a' + 1;
            }
            return value;
        }
    }

    /** Finds the FAULT of a text, if it has one. */
    private static final class Reader {
        private static final int SYNTAX = 1;
        private static final int ROOM = 2;
        private static final int TWICE = 3;
        private static final int WRONG = 5;
        private static final int MOST_IFS = 4;
        private static final int DEEPEST = 6;

        private final Tokens tokens;
        private final long[] names = new long[MOST_NOISES + MOST_PLACES + MOST_SHOTS];
        private int named;
        private int noises;
        private int places;
        private int shots;
        private int at;
        private int faultToken;
        int fault;
        int faultPlace = NONE;

        Reader(Tokens tokens) {
            this.tokens = tokens;
        }

        void check() {
            fault = 0;
            at = 0;
            noises = 0;
            places = 0;
            shots = 0;
            for (int tells = 0; tells < Tokens.MOST && fault == 0 && tokens.kindAt(at) != END; tells++) {
                passTell();
            }
            if (fault == 0) {
                checkNamesAndNumbers();
            }
            faultPlace = fault == 0 ? NONE : tokens.placeAt(faultToken);
        }

        private void refuse(int number, int token) {
            if (fault == 0) {
                fault = number;
                faultToken = token;
            }
        }

        private void pass() {
            if (at >= Tokens.MOST) {
                refuse(ROOM, at);
            } else {
                at++;
            }
        }

        private void passOnly(int kind) {
            if (fault != 0) {
                return;
            }
            if (tokens.kindAt(at) == kind) {
                pass();
            } else {
                refuse(SYNTAX, at);
            }
        }

        private void passTell() {
            switch (tokens.kindAt(at)) {
                case CLOCK:
                    noises = oneMore(noises, MOST_NOISES);
                    passNamed(5);
                    break;
                case CHANCE:
                    noises = oneMore(noises, MOST_NOISES);
                    passNamed(4);
                    break;
                case PLACE:
                    places = oneMore(places, MOST_PLACES);
                    passNamed(1);
                    break;
                case SHOT:
                    shots = oneMore(shots, MOST_SHOTS);
                    passNamed(2);
                    break;
                case HEAR:
                case BEARS:
                case RUSTLES:
                    pass();
                    passLaw();
                    break;
                case MOVE:
                case COINS:
                case SEED:
                    pass();
                    passOnly(INT);
                    passOnly(';');
                    break;
                default:
                    refuse(SYNTAX, at);
            }
        }

        private int oneMore(int told, int most) {
            if (told >= most) {
                refuse(ROOM, at);
            }
            return told + 1;
        }

        private void passNamed(int ints) {
            pass();
            passOnly(NAME);
            for (int i = 0; i < ints; i++) {
                passOnly(INT);
            }
            passOnly(';');
        }

        private void passLaw() {
            passOnly('=');
            for (int ifs = 0; ifs <= MOST_IFS && fault == 0 && tokens.kindAt(at) == IF; ifs++) {
                if (ifs == MOST_IFS) {
                    refuse(ROOM, at);
                }
                passOnly(IF);
                passSum('<');
                passSum(THEN);
                passSum(ELSE);
            }
            passSum(';');
        }

        /** An E, and the TOKEN that ends it. */
        private void passSum(int ending) {
            int open = 0;
            boolean wantsUnit = true;
            boolean ended = false;
            for (int i = 0; i <= Tokens.MOST && fault == 0 && !ended; i++) {
                int kind = tokens.kindAt(at);
                if (wantsUnit && kind == '(') {
                    open++;
                    if (open > DEEPEST) {
                        refuse(ROOM, at);
                    }
                } else if (wantsUnit && (kind == INT || isVar(kind))) {
                    wantsUnit = false;
                } else if (!wantsUnit && isOperator(kind)) {
                    wantsUnit = true;
                } else if (!wantsUnit && open > 0 && kind == ')') {
                    open--;
                } else if (!wantsUnit && open == 0 && kind == ending) {
                    ended = true;
                } else {
                    refuse(SYNTAX, at);
                }
                pass();
            }
        }

        private static boolean isVar(int kind) {
            return kind >= LOUD && kind <= DAY;
        }

        private static boolean isOperator(int kind) {
            return kind == '+' || kind == '-' || kind == '*' || kind == '/';
        }

        private void checkNamesAndNumbers() {
            named = 0;
            int head = 0;
            for (int i = 0; i < tokens.size && fault == 0; i++) {
                int kind = tokens.kindAt(i);
                if (kind == ';') {
                    head = i + 1;
                } else if (kind == NAME && !isNewName(tokens.valueAt(i))) {
                    refuse(TWICE, i);
                } else if (kind == INT && !fits(tokens.kindAt(head), i - head, tokens.intAt(i))) {
                    refuse(WRONG, i);
                }
            }
        }

        private boolean isNewName(long name) {
            for (int i = 0; i < named; i++) {
                if (names[i] == name) {
                    return false;
                }
            }
            if (named < names.length) {
                names[named] = name;
                named++;
            }
            return true;
        }

        /** Whether a number may stand at a column of a TELL (2: the one behind the NAME). */
        private static boolean fits(int tell, int column, int n) {
            switch (tell) {
                case CLOCK:
                    if (column == 2) {
                        return n <= 999;
                    }
                    if (column == 3) {
                        return within(n, 1, 999);
                    }
                    return within(n, column == 4 ? 1 : 0, 99);
                case CHANCE:
                    if (column == 2) {
                        return n <= 100;
                    }
                    return column == 3 ? within(n, 1, 20) : n <= 99;
                case PLACE:
                    return n <= 9;
                case SHOT:
                    return column == 2 ? within(n, 1, LONGEST_SHOT) : n <= 99;
                case MOVE:
                    return n <= 99;
                default:
                    return true;
            }
        }
    }

    /** A LAW: numbers stand in its code as they are, all else as its kind below 0, operators behind their parts. */
    private static final class Law {
        private static final int LESS = -'<';
        private static final int ANSWER = -';';
        private static final int PLUS = -'+';
        private static final int MINUS = -'-';
        private static final int TIMES = -'*';
        // Seven levels of ( with two operators each, and the ( themselves, stay below it.
        private static final int DEEPEST = 32;

        private final int[] code = new int[Tokens.MOST];
        private final int[] parts = new int[DEEPEST];
        private final int[] operators = new int[DEEPEST];
        private int used;
        private int open;

        void becomeOnly(int op) {
            used = 0;
            emit(op);
            emit(ANSWER);
        }

        /** Learns what stands from a TOKEN on till a TELL's end. */
        void learn(Tokens tokens, int from) {
            used = 0;
            open = 0;
            int kind = IF;
            for (int i = from; i < tokens.size && kind != ';'; i++) {
                kind = tokens.kindAt(i);
                if (kind == INT) {
                    emit(tokens.intAt(i));
                } else if (kind >= LOUD && kind <= DAY) {
                    emit(-kind);
                } else if (kind == '(') {
                    putOperator(kind);
                } else if (kind == ')') {
                    emitOperators(1);
                    open = Math.max(0, open - 1);
                } else if (rankOf(kind) > 0) {
                    emitOperators(rankOf(kind));
                    putOperator(kind);
                } else if (kind != IF) {
                    endSum(kind);
                }
            }
        }

        private void endSum(int kind) {
            emitOperators(1);
            if (kind == THEN) {
                emit(LESS);
            } else if (kind == ELSE || kind == ';') {
                emit(ANSWER);
            }
        }

        private static int rankOf(int kind) {
            if (kind == '+' || kind == '-') {
                return 1;
            }
            return kind == '*' || kind == '/' ? 2 : 0;
        }

        private void putOperator(int kind) {
            if (open < DEEPEST) {
                operators[open] = kind;
                open++;
            }
        }

        private void emitOperators(int leastRank) {
            while (open > 0 && rankOf(operators[open - 1]) >= leastRank) {
                open--;
                emit(-operators[open]);
            }
        }

        private void emit(int op) {
            if (used < code.length) {
                code[used] = op;
                used++;
            }
        }

        /** What the LAW tells, vars being the VARS from LOUD on. */
        int answer(int[] vars) {
            int depth = 0;
            boolean passing = false;
            for (int i = 0; i < used; i++) {
                int op = code[i];
                if (passing) {
                    passing = op != ANSWER;
                } else if (op >= 0 || op >= -DAY && op <= -LOUD) {
                    if (depth >= DEEPEST) {
                        return 0;
                    }
                    parts[depth] = op >= 0 ? op : vars[-op - LOUD];
                    depth++;
                } else if (op == ANSWER) {
                    return depth > 0 ? parts[depth - 1] : 0;
                } else if (depth < 2) {
                    return 0;
                } else {
                    int right = parts[depth - 1];
                    int left = parts[depth - 2];
                    depth--;
                    if (op == LESS) {
                        depth--;
                        passing = left >= right;
                    } else if (op == PLUS) {
                        parts[depth - 1] = left + right;
                    } else if (op == MINUS) {
                        parts[depth - 1] = left - right;
                    } else if (op == TIMES) {
                        parts[depth - 1] = left * right;
                    } else if (right == 0) {
                        return 0;
                    } else {
                        parts[depth - 1] = left / right;
                    }
                }
            }
            return 0;
        }
    }

    /** What the text that is in place tells. */
    private static final class Script {
        private static final int MOVE_UNTOLD = 5;
        private static final int COINS_UNTOLD = 50;

        int noises;
        int places;
        int shots;
        final boolean[] clock = new boolean[MOST_NOISES];
        final int[] first = new int[MOST_NOISES];
        // Of a NOISE of CHANCE: its odds.
        final int[] every = new int[MOST_NOISES];
        final int[] lasts = new int[MOST_NOISES];
        final int[] loudness = new int[MOST_NOISES];
        final int[] price = new int[MOST_NOISES];
        final int[] far = new int[MOST_PLACES];
        final int[] lengths = new int[MOST_SHOTS];
        final int[] limits = new int[MOST_SHOTS];
        final Law hear = new Law();
        final Law bears = new Law();
        final Law rustles = new Law();
        int move;
        int coins;
        int seed;

        Script() {
            clear();
        }

        private void clear() {
            noises = 0;
            places = 0;
            shots = 0;
            hear.becomeOnly(-LOUD);
            bears.becomeOnly(-LIMIT);
            rustles.becomeOnly(0);
            move = MOVE_UNTOLD;
            coins = COINS_UNTOLD;
            seed = 0;
        }

        /** Learns a text without a FAULT. */
        void learn(Tokens tokens) {
            clear();
            int head = 0;
            for (int i = 0; i < tokens.size; i++) {
                if (tokens.kindAt(i) == ';') {
                    learnTell(tokens, head);
                    head = i + 1;
                }
            }
        }

        private void learnTell(Tokens tokens, int head) {
            switch (tokens.kindAt(head)) {
                case CLOCK:
                    learnNoise(true, tokens.intAt(head + 2), tokens, head + 3);
                    break;
                case CHANCE:
                    learnNoise(false, 0, tokens, head + 2);
                    break;
                case PLACE:
                    learnPlace(tokens.intAt(head + 2));
                    break;
                case SHOT:
                    learnShot(tokens.intAt(head + 2), tokens.intAt(head + 3));
                    break;
                case HEAR:
                    hear.learn(tokens, head + 2);
                    break;
                case BEARS:
                    bears.learn(tokens, head + 2);
                    break;
                case RUSTLES:
                    rustles.learn(tokens, head + 2);
                    break;
                case MOVE:
                    move = tokens.intAt(head + 1);
                    break;
                case COINS:
                    coins = tokens.intAt(head + 1);
                    break;
                case SEED:
                    seed = tokens.intAt(head + 1);
                    break;
                default:
                    break;
            }
        }

        /** The numbers from a TOKEN on are alike for both sorts: EVERY or odds, LASTS, LOUD, PRICE. */
        private void learnNoise(boolean byClock, int firstSecond, Tokens tokens, int from) {
            if (noises < MOST_NOISES) {
                clock[noises] = byClock;
                first[noises] = firstSecond;
                every[noises] = tokens.intAt(from);
                lasts[noises] = tokens.intAt(from + 1);
                loudness[noises] = tokens.intAt(from + 2);
                price[noises] = tokens.intAt(from + 3);
                noises++;
            }
        }

        private void learnPlace(int howFar) {
            if (places < MOST_PLACES) {
                far[places] = howFar;
                places++;
            }
        }

        private void learnShot(int length, int limit) {
            if (shots < MOST_SHOTS) {
                lengths[shots] = length;
                limits[shots] = limit;
                shots++;
            }
        }

        int allSeconds(int shot) {
            return (1 << lengths[shot]) - 1;
        }

        int priceOf(int noiseBits) {
            int sum = 0;
            for (int noise = 0; noise < noises; noise++) {
                if ((noiseBits >> noise & 1) != 0) {
                    sum += price[noise];
                }
            }
            return sum;
        }
    }

    /** What goes on: all that a SLOT holds and that undo brings back. */
    private static final class State {
        int second;
        int place;
        int stood;
        int coins;
        final int[] paid = new int[MOST_NOISES];
        final int[] joined = new int[MOST_SHOTS];
        final int[] taken = new int[MOST_SHOTS];
        final int[] good = new int[MOST_SHOTS];

        void clear(int coinsTold) {
            second = 0;
            place = 0;
            stood = 0;
            coins = coinsTold;
            Arrays.fill(paid, 0);
            Arrays.fill(joined, 0);
            Arrays.fill(taken, 0);
            Arrays.fill(good, 0);
        }

        void copy(State other) {
            second = other.second;
            place = other.place;
            stood = other.stood;
            coins = other.coins;
            System.arraycopy(other.paid, 0, paid, 0, MOST_NOISES);
            System.arraycopy(other.joined, 0, joined, 0, MOST_SHOTS);
            System.arraycopy(other.taken, 0, taken, 0, MOST_SHOTS);
            System.arraycopy(other.good, 0, good, 0, MOST_SHOTS);
        }

        void stand(int seconds) {
            second += seconds;
            stood += seconds;
        }

        void addTake(int shot, int clear, int all) {
            joined[shot] |= clear;
            taken[shot]++;
            if (clear == all) {
                good[shot]++;
            }
        }

        boolean isDone(int shot, Script script) {
            return joined[shot] == script.allSeconds(shot);
        }

        int allTakes() {
            int takes = 0;
            for (int shot = 0; shot < MOST_SHOTS; shot++) {
                takes += taken[shot];
            }
            return takes;
        }
    }

    /** What went on ahead of the latest things done. */
    private static final class History {
        private static final int ROOM = 40;

        private final State[] ring = new State[ROOM];
        private int top;
        int size;

        History() {
            for (int i = 0; i < ROOM; i++) {
                ring[i] = new State();
            }
        }

        void push(State state) {
            ring[top].copy(state);
            top = (top + 1) % ROOM;
            size = Math.min(ROOM, size + 1);
        }

        void pop(State state) {
            if (size > 0) {
                top = (top + ROOM - 1) % ROOM;
                size--;
                state.copy(ring[top]);
            }
        }
    }

    /** NOISES and LAWS in any SECOND of the day, by a SEED. */
    private static final class Ears {
        private static final int VARS = DAY - LOUD + 1;
        private static final int RUSTLING_LOTS = 4000000;
        // So far back that nothing of it lasts till SECOND 0.
        private static final int NEVER = -1000;

        private final Script script;
        // Each LAW has its own, so that the VARS not told for it stay 0.
        private final int[] hearVars = new int[VARS];
        private final int[] bearsVars = new int[VARS];
        private final int[] rustlesVars = new int[VARS];
        // The SECOND last asked for and the begin found then: the SECOND behind it needs but one LOT.
        private final int[] asked = new int[MOST_NOISES];
        private final int[] begun = new int[MOST_NOISES];
        private int seed;

        Ears(Script script) {
            this.script = script;
        }

        void tune(int newSeed) {
            seed = newSeed;
            Arrays.fill(asked, NEVER);
        }

        private int lot(int which) {
            int h = seed;
            for (int round = 0; round < 2; round++) {
                h = (h ^ (round == 0 ? 79 : which)) * 1103515245 + 12345;
                h ^= h >>> 15;
            }
            return (h >>> 1) % 100;
        }

        /** The AGE of a NOISE in a SECOND; NOT if it is not ON. */
        int ageOf(int noise, int t, int paidTill) {
            if (paidTill > t) {
                return NOT;
            }
            int since = t - (script.clock[noise] ? script.first[noise] : latestBegin(noise, t));
            if (since < 0) {
                return NOT;
            }
            int every = script.every[noise];
            int age = script.clock[noise] && every > 0 ? since % every : since;
            return age < script.lasts[noise] ? age : NOT;
        }

        /** The latest SECOND till t in which a NOISE of CHANCE began, or one so early that it does not matter. */
        private int latestBegin(int noise, int t) {
            if (asked[noise] == t) {
                return begun[noise];
            }
            boolean onward = asked[noise] == t - 1;
            int earliest = onward ? t : Math.max(0, t - script.lasts[noise] + 1);
            int latest = onward ? begun[noise] : NEVER;
            for (int s = t; s >= earliest; s--) {
                if (lot(8 * s + noise) < script.every[noise]) {
                    latest = s;
                    break;
                }
            }
            asked[noise] = t;
            begun[noise] = latest;
            return latest;
        }

        /** HEARD of a NOISE that has an AGE. */
        int heardOf(int noise, int place, int t, int age) {
            if (age < 0 || place < 0 || place >= script.places) {
                return 0;
            }
            hearVars[0] = script.loudness[noise];
            hearVars[AGE - LOUD] = age;
            hearVars[LASTS - LOUD] = script.lasts[noise];
            hearVars[FAR - LOUD] = script.far[place];
            hearVars[WHICH - LOUD] = noise;
            hearVars[DAY - LOUD] = t;
            return Math.max(0, Math.min(LOUDEST_NOISE, script.hear.answer(hearVars)));
        }

        /** What a SECOND of a SHOT bears if it falls on t. */
        int borne(int shot, int second, int t) {
            bearsVars[LIMIT - LOUD] = script.limits[shot];
            bearsVars[SECOND - LOUD] = second;
            bearsVars[WHICH - LOUD] = shot;
            bearsVars[DAY - LOUD] = t;
            return Math.max(0, Math.min(LOUDEST_NOISE, script.bears.answer(bearsVars)));
        }

        boolean isRustling(int stood, int t) {
            rustlesVars[STOOD - LOUD] = stood;
            rustlesVars[DAY - LOUD] = t;
            // A LOT is 0 .. 99, so it need not be held to 0 .. 100.
            int odds = script.rustles.answer(rustlesVars);
            return odds > 0 && lot(8 * t + RUSTLING_LOTS) < odds;
        }
    }

    /** What would be from now on at the PLACE that is faced, if they stood on: kept till something changes. */
    private static final class Survey {
        // As far as ORDER can come: 5 SHOTS, each with the longest waiting ahead of it.
        private static final int REACH = Plan.MOST * (AHEAD + LONGEST_SHOT);
        private static final int RUSTLING = 50;

        // A sound is packed: the most HEARD, the next most, the NOISE that leads and 1 more, RUSTLING, known.
        private static final int NEXT_SHIFT = 7;
        private static final int LEADER_SHIFT = 14;
        private static final int RUSTLING_BIT = 1 << 18;
        private static final int KNOWN_BIT = 1 << 19;

        private static final int GOOD = 1;
        private static final int POOR = 2;

        private final Script script;
        private final State state;
        private final Ears ears;
        private final int[] sounds = new int[REACH];
        // Two bits for each SHOT: whether a TAKE that begins there is GOOD, POOR, or not known yet.
        private final int[] verdicts = new int[REACH];
        private int faced = NONE;

        Survey(Script script, State state, Ears ears) {
            this.script = script;
            this.state = state;
            this.ears = ears;
        }

        void drop() {
            faced = NONE;
        }

        void face(int place) {
            if (place != faced) {
                faced = place;
                Arrays.fill(sounds, 0);
                Arrays.fill(verdicts, 0);
            }
        }

        int soundAt(int offset) {
            if (offset < 0 || offset >= REACH) {
                return 0;
            }
            if (sounds[offset] != 0) {
                return sounds[offset];
            }
            int t = state.second + offset;
            int top = 0;
            int next = 0;
            int leader = NONE;
            for (int noise = 0; noise < script.noises; noise++) {
                int heard = ears.heardOf(noise, faced, t, ears.ageOf(noise, t, state.paid[noise]));
                if (heard > top) {
                    next = top;
                    top = heard;
                    leader = noise;
                } else {
                    next = Math.max(next, heard);
                }
            }
            int rustling = ears.isRustling(state.stood + offset, t) ? RUSTLING_BIT : 0;
            sounds[offset] = top | next << NEXT_SHIFT | leader + 1 << LEADER_SHIFT | rustling | KNOWN_BIT;
            return sounds[offset];
        }

        static int topOf(int sound) {
            return sound & 127;
        }

        /** The NOISE that is HEARD most, the first of alike ones; NONE where nothing is HEARD. */
        static int leaderOf(int sound) {
            return (sound >> LEADER_SHIFT & 15) - 1;
        }

        static int rustlingOf(int sound) {
            return (sound & RUSTLING_BIT) != 0 ? RUSTLING : 0;
        }

        /** The NOISE of a sound, one NOISE (or NONE) not being ON. */
        private static int noiseWithout(int noise, int sound) {
            boolean leads = noise >= 0 && noise == leaderOf(sound);
            return Math.max(rustlingOf(sound), leads ? sound >> NEXT_SHIFT & 127 : topOf(sound));
        }

        int noiseAt(int offset) {
            return noiseWithout(NONE, soundAt(offset));
        }

        /** The greatest NOISE of n SECONDS, or of the first of them, if that is no less than what is enough. */
        int greatest(int offset, int n, int enough) {
            int greatest = 0;
            for (int i = 0; i < n && greatest < enough; i++) {
                greatest = Math.max(greatest, noiseAt(offset + i));
            }
            return greatest;
        }

        int heardOf(int noise, int place, int offset) {
            int t = state.second + offset;
            return ears.heardOf(noise, place, t, ears.ageOf(noise, t, state.paid[noise]));
        }

        /** The first SECOND that is not CLEAR of a TAKE that begins there, one NOISE being paid; NONE: all are. */
        int firstUnclear(int shot, int offset, int paid) {
            for (int second = 0; second < script.lengths[shot]; second++) {
                int at = offset + second;
                int noise = noiseWithout(at < AHEAD ? paid : NONE, soundAt(at));
                if (noise > ears.borne(shot, second, state.second + at)) {
                    return second;
                }
            }
            return NONE;
        }

        int clearSeconds(int shot, int offset) {
            int clear = 0;
            for (int second = 0; second < script.lengths[shot]; second++) {
                int at = offset + second;
                if (noiseAt(at) <= ears.borne(shot, second, state.second + at)) {
                    clear |= 1 << second;
                }
            }
            return clear;
        }

        /** Where the first GOOD TAKE begins, from one till another; NOT: nowhere. */
        int firstGood(int shot, int earliest, int latest) {
            int shift = 2 * shot;
            for (int offset = Math.max(0, earliest); offset <= latest && offset < REACH; offset++) {
                int verdict = verdicts[offset] >> shift & 3;
                if (verdict == 0) {
                    verdict = firstUnclear(shot, offset, NONE) < 0 ? GOOD : POOR;
                    verdicts[offset] |= verdict << shift;
                }
                if (verdict == GOOD) {
                    return offset;
                }
            }
            return NOT;
        }

        /** As firstGood, a NOISE being paid for all that one looks ahead. */
        int firstGoodWithout(int noise, int shot, int latest) {
            for (int offset = 0; offset <= latest; offset++) {
                if (firstUnclear(shot, offset, noise) < 0) {
                    return offset;
                }
            }
            return NOT;
        }

        /** The NOISES (bits) for which a TAKE now is not GOOD; NOT if it is not for RUSTLING. */
        int tooLoud(int shot) {
            int bits = 0;
            for (int second = 0; second < script.lengths[shot]; second++) {
                int borne = ears.borne(shot, second, state.second + second);
                if (rustlingOf(soundAt(second)) > borne) {
                    return NOT;
                }
                for (int noise = 0; noise < script.noises; noise++) {
                    if (heardOf(noise, state.place, second) > borne) {
                        bits |= 1 << noise;
                    }
                }
            }
            return bits;
        }
    }

    /** In which order the first SHOTS not yet DONE, and all choices of them, end soonest. */
    private static final class Plan {
        static final int MOST = 5;
        static final int NEVER = 1000000;

        private final Script script;
        private final State state;
        private final Survey survey;
        private final int[] shots = new int[MOST];
        private final int[] trail = new int[MOST];
        // By the choice (bits of where they stand in shots): behind how many SECONDS the last one ends.
        final int[] ends = new int[1 << MOST];
        final int[] order = new int[MOST];
        int size;

        Plan(Script script, State state, Survey survey) {
            this.script = script;
            this.state = state;
            this.survey = survey;
        }

        void gather() {
            size = 0;
            for (int shot = 0; shot < script.shots && size < MOST; shot++) {
                if (!state.isDone(shot, script)) {
                    shots[size] = shot;
                    size++;
                }
            }
            Arrays.fill(ends, NEVER);
            ends[0] = 0;
        }

        int all() {
            return (1 << size) - 1;
        }

        /**
         * Goes on from a choice whose SHOTS stand in the trail. All orders are gone through: as waiting has its limit,
         * one that ends later may yet be gone on from where one that ends sooner can not.
         */
        void visit(int depth, int choice, int end) {
            if (depth >= size) {
                return;
            }
            for (int i = 0; i < size; i++) {
                int wider = choice | 1 << i;
                int begin = wider == choice ? NOT : survey.firstGood(shots[i], end, end + AHEAD);
                if (begin >= 0) {
                    trail[depth] = shots[i];
                    int widerEnd = begin + script.lengths[shots[i]];
                    keepIfSooner(wider, widerEnd);
                    visit(depth + 1, wider, widerEnd);
                }
            }
        }

        private void keepIfSooner(int choice, int end) {
            if (end < ends[choice]) {
                ends[choice] = end;
                if (choice == all()) {
                    System.arraycopy(trail, 0, order, 0, size);
                }
            }
        }

        /** The choice to be left out so that the rest ends in time: the fewest, of alike ones the least bits. */
        int fewestLeft(int inTime) {
            int fewest = all();
            for (int left = 0; left < all(); left++) {
                if (ends[all() - left] <= inTime && Integer.bitCount(left) < Integer.bitCount(fewest)) {
                    fewest = left;
                }
            }
            return fewest;
        }

        int shotBits(int choice) {
            int bits = 0;
            for (int i = 0; i < size; i++) {
                if ((choice >> i & 1) != 0) {
                    bits |= 1 << shots[i];
                }
            }
            return bits;
        }
    }

    /** What is TOLD of a track, and with which SECONDS of the day it may begin. */
    private static final class Track {
        static final int ROOM = 20;
        static final int LATEST = 99;
        private static final int DAY_LONG = 1000;

        private final Script script;
        private final Ears ears;
        // For each begin: how many of the first ones TOLD are so with it.
        private final int[] agreeing = new int[DAY_LONG];
        int size;

        Track(Script script, Ears ears) {
            this.script = script;
            this.ears = ears;
        }

        void clear() {
            size = 0;
            Arrays.fill(agreeing, 0);
        }

        void add(int place, int n, int noise) {
            for (int begin = 0; begin < DAY_LONG; begin++) {
                if (agreeing[begin] == size && noiseOf(place, begin + n) == noise) {
                    agreeing[begin]++;
                }
            }
            size++;
        }

        private int noiseOf(int place, int t) {
            int greatest = 0;
            for (int noise = 0; noise < script.noises; noise++) {
                greatest = Math.max(greatest, ears.heardOf(noise, place, t, ears.ageOf(noise, t, 0)));
            }
            return greatest;
        }

        int howMany(int known) {
            int begins = 0;
            for (int begin = 0; begin < DAY_LONG; begin++) {
                if (agreeing[begin] >= known) {
                    begins++;
                }
            }
            return begins;
        }

        int which(int known, int i) {
            int passed = 0;
            for (int begin = 0; begin < DAY_LONG; begin++) {
                if (agreeing[begin] >= known) {
                    if (passed == i) {
                        return begin;
                    }
                    passed++;
                }
            }
            return NONE;
        }
    }
}
