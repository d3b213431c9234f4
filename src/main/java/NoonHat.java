import java.util.Arrays;

/**
 * A hat thrown from a tower each noon, the people of a square who run for it, and the laws of
 * who wears it. ../shared/DOC.md says what each call answers.
 */
public final class NoonHat {
    public static final int NONE = -1;
    public static final long NOTHING = -1000000000000000L;

    private static final int TAPE_MAX = 1600;
    private static final int SIDE = 9;
    private static final int PLACES = 81;
    private static final int HIGH_MAX = 9;
    private static final int LAWS_MAX = 6;
    private static final int PEOPLE_MAX = 6;
    private static final int WALLS_MAX = 10;
    private static final int STATEMENTS_MAX = 60;
    private static final int LETTERS_MAX = 6;
    private static final int DIGITS_MAX = 4;
    private static final int OPEN_MAX = 6;
    private static final int WAYS = 9;
    private static final int FORCE_MAX = 3;
    private static final int THROWS = 33;
    private static final int NOON_MAX = 999;
    private static final int WORE_MAX = 999;
    private static final int TERMS_MAX = 99;
    private static final int AHEAD_MAX = 60;
    private static final int TURN_MAX = 100;
    private static final int ACTS_MAX = 20;
    private static final int TOLD_MAX = 40;
    private static final int SEEN_MAX = 7;
    private static final int IMAGE_MAX = 41;
    private static final int HELD = 1000000;
    private static final int NOBODY = 255;
    private static final int WALL = 100;
    private static final int HATLESS_BIT = 64;

    // What is told of a person; the first eight are the numbers that person() asks by, the
    // others stand behind them in the row of facts that a formula reads.
    private static final int COLUMN = 0;
    private static final int ROW = 1;
    private static final int TALL = 2;
    private static final int PACE = 3;
    private static final int LAW = 4;
    private static final int WAY = 5;
    private static final int FORCE = 6;
    private static final int WORE = 7;
    private static final int PERSON_FACTS = 8;
    private static final int NUMBER = 8;
    private static final int TERMS = 9;
    private static final int NOON = 10;
    private static final int HEIGHT = 11;
    private static final int GETS = 12;
    private static final int FACTS = 13;

    // Where a formula stands, as bits: it decides which words may be parts of it.
    private static final int IN_WINDS = 1;
    private static final int IN_MAY = 2;
    private static final int IN_QUESTION = 4;

    private static final int[] COLUMN_STEPS = {0, 0, 1, 1, 1, 0, -1, -1, -1};
    private static final int[] ROW_STEPS = {0, -1, -1, 0, 1, 1, 1, 0, -1};

    private final int[] tape = new int[TAPE_MAX];
    private int tapeLength = 0;
    private final int[] refused = new int[6];
    private int fault = 0;
    private int faultAt = NONE;
    private final Scan scan = new Scan(tape);
    private final Formula asking = new Formula();
    private final FormulaReader formulas = new FormulaReader(scan, asking);
    private Square plan = new Square();
    private Square spare = new Square();
    private final SquareReader squares = new SquareReader(scan, formulas, spare);
    private final State now = new State();
    private final State other = new State();
    private final Flight flight = new Flight(plan, now);
    private final Past past = new Past();
    private final Dice dice = new Dice();
    private final int[] seen = new int[SEEN_MAX];
    private int seenLength = 0;
    private final int[] picture = new int[IMAGE_MAX];
    private int pictureLength = 0;

    public NoonHat() {
    }

    // ---- the tape and the square

    public int feed(int a, int b, int c, int d, int e) {
        if (tapeLength + 20 > TAPE_MAX) {
            refused[0]++;
            return NONE;
        }
        putNumber(a);
        putNumber(b);
        putNumber(c);
        putNumber(d);
        putNumber(e);
        return tapeLength;
    }

    private void putNumber(int number) {
        for (int shift = 24; shift >= 0; shift -= 8) {
            if (tapeLength < TAPE_MAX) {
                tape[tapeLength] = (number >>> shift) & 255;
                tapeLength++;
            }
        }
    }

    public boolean end(int n) {
        if (n < 0 || n > tapeLength) {
            refused[0]++;
            return false;
        }
        tapeLength = n;
        return true;
    }

    public int square() {
        int statements = squares.read(takeTape(), spare);
        keepFault();
        if (statements == NONE) {
            refused[1]++;
            return NONE;
        }
        Square old = plan;
        plan = spare;
        spare = old;
        now.copyFrom(plan.start);
        past.forget();
        seenLength = 0;
        return statements;
    }

    private int takeTape() {
        int length = tapeLength;
        tapeLength = 0;
        return length;
    }

    private void keepFault() {
        fault = scan.fault;
        faultAt = scan.faultAt;
    }

    private boolean isTold() {
        return plan.columns > 0;
    }

    public int fault(int what) {
        if (what == 0) {
            return fault;
        }
        return what == 1 ? faultAt : NONE;
    }

    public int has(int what) {
        switch (what) {
            case 0: return plan.columns;
            case 1: return plan.rows;
            case 2: return plan.laws;
            case 3: return now.people;
            case 4: return plan.walls;
            case 5: return now.noon;
            case 6: return now.wearer;
            case 7: return now.lawInForce();
            case 8: return now.terms;
            case 9: return past.told();
            case 10: return seenLength;
            case 11: return past.acts;
            default: return NONE;
        }
    }

    public int letter(int kind, int which, int k) {
        if (k < 0 || k >= LETTERS_MAX || which < 0) {
            return NONE;
        }
        if (kind == 0 && which < plan.laws) {
            return Word.letterOf(plan.lawNames[which], k);
        }
        if (kind == 1 && which < now.people) {
            return Word.letterOf(plan.names[which], k);
        }
        return NONE;
    }

    public int person(int person, int what) {
        if (!now.knows(person) || what < 0 || what >= PERSON_FACTS) {
            return NONE;
        }
        return now.person[person][what];
    }

    public int place(int column, int row) {
        if (!plan.within(column, row)) {
            return NONE;
        }
        return plan.walled(column, row) ? WALL : now.whoStands(column, row);
    }

    public int kept(int k, int what) {
        return past.toldOf(k, what);
    }

    // ---- throws

    public int toss(int way, int force, int what) {
        if (!isTold() || !isThrow(way, force) || what < 0 || what > 3) {
            return NONE;
        }
        flight.prepare(plan, now, now.noon, null);
        flight.fly(plan.landing[throwNumber(way, force)]);
        switch (what) {
            case 0: return flight.who;
            case 1: return flight.beat;
            case 2: return flight.hatColumn;
            default: return flight.hatRow;
        }
    }

    private static boolean isThrow(int way, int force) {
        return way >= 0 && way < WAYS && force >= 0 && force <= FORCE_MAX;
    }

    private static int throwNumber(int way, int force) {
        return way == 0 ? 0 : 4 * way - 3 + force;
    }

    private static int wayOf(int toss) {
        return toss == 0 ? 0 : (toss + 3) / 4;
    }

    private static int forceOf(int toss) {
        return toss == 0 ? 0 : (toss + 3) % 4;
    }

    public int likely(int person, int what) {
        if (!now.knows(person) || what < 0 || what > 1) {
            return NONE;
        }
        flight.prepare(plan, now, now.noon, null);
        return what == 0 ? flight.firstGot(person) : flight.countGot(person);
    }

    public int stand(int person, int what) {
        if (!now.knows(person) || what < 0 || what > 2) {
            return NONE;
        }
        other.copyFrom(now);
        flight.prepare(plan, other, now.noon, null);
        int best = NONE;
        int bestPlace = 0;
        for (int place = 0; place < PLACES; place++) {
            int column = place % SIDE;
            int row = place / SIDE;
            if (canStand(person, column, row)) {
                other.put(person, column, row);
                flight.forgetFlights();
                int got = flight.countGot(person);
                if (got > best) {
                    best = got;
                    bestPlace = place;
                }
            }
        }
        if (what == 2) {
            return best;
        }
        return what == 0 ? bestPlace % SIDE : bestPlace / SIDE;
    }

    private boolean canStand(int person, int column, int row) {
        if (!plan.within(column, row) || plan.walled(column, row)) {
            return false;
        }
        int who = now.whoStands(column, row);
        return who == NONE || who == person;
    }

    public int change(int person, int what) {
        if (!now.knows(person) || what < 0 || what > 2) {
            return NONE;
        }
        flight.prepare(plan, now, now.noon, null);
        int best = NONE;
        int least = 0;
        for (int toss = 0; toss < THROWS; toss++) {
            int off = offNow(toss);
            if ((best == NONE || off < least) && flight.got(toss) == person) {
                best = toss;
                least = off;
            }
        }
        if (best == NONE) {
            return NONE;
        }
        if (what == 2) {
            return least;
        }
        return what == 0 ? wayOf(best) : forceOf(best);
    }

    private int offNow(int toss) {
        int way = now.wayNow();
        int round = Math.abs(way - wayOf(toss));
        if (way == 0 || toss == 0) {
            round = Math.min(round, 1);
        }
        return Math.min(round, WAYS - 1 - round) + Math.abs(now.forceNow() - forceOf(toss));
    }

    // ---- ahead

    public int later(int n, int what) {
        if (!isAhead(n) || what < 0 || what > 2) {
            return NONE;
        }
        other.copyFrom(now);
        for (int k = 0; k < n; k++) {
            flight.playNoon(plan, other, null);
        }
        switch (what) {
            case 0: return other.wearer;
            case 1: return other.terms;
            default: return other.lawInForce();
        }
    }

    private boolean isAhead(int n) {
        return isTold() && n >= 0 && n <= AHEAD_MAX && now.noon + n <= NOON_MAX;
    }

    public int lasts(int law, int n) {
        if (law < 0 || law >= plan.laws || n < 1 || !isAhead(n)) {
            return NONE;
        }
        other.copyFrom(now);
        int count = 0;
        for (int k = 0; k < n; k++) {
            flight.playNoon(plan, other, null);
            if (other.lawInForce() == law) {
                count++;
            }
        }
        return count;
    }

    public int hatless() {
        other.copyFrom(now);
        for (int n = 1; n <= AHEAD_MAX; n++) {
            if (!isAhead(n)) {
                return NONE;
            }
            flight.playNoon(plan, other, null);
            if (other.wearer == NONE) {
                return n;
            }
        }
        return NONE;
    }

    // ---- who wore it

    public int see() {
        int length = takeTape();
        if (!isTold() || !areLaws(length) || now.noon + length > NOON_MAX) {
            refused[1]++;
            return NONE;
        }
        System.arraycopy(tape, 0, seen, 0, length);
        seenLength = length;
        return length;
    }

    private boolean areLaws(int length) {
        if (length < 1 || length > SEEN_MAX) {
            return false;
        }
        for (int k = 0; k < length; k++) {
            if (tape[k] >= plan.laws && tape[k] != NOBODY) {
                return false;
            }
        }
        return true;
    }

    public int wears(int k) {
        if (k < 0 || k >= seenLength) {
            return NONE;
        }
        flight.prepare(plan, now, now.noon + k, null);
        int law = seen[k] == NOBODY ? NONE : seen[k];
        int bits = 0;
        for (int toss = 0; toss < THROWS; toss++) {
            int who = flight.got(toss);
            if (now.lawOf(who) == law) {
                bits |= who == NONE ? HATLESS_BIT : 1 << who;
            }
        }
        return bits;
    }

    public int asked(int what) {
        if (seenLength == 0 || what < 0 || what > 1) {
            return NONE;
        }
        int best = 0;
        int most = NONE;
        for (int k = 0; k < seenLength; k++) {
            int can = Integer.bitCount(wears(k));
            if (can > most) {
                most = can;
                best = k;
            }
        }
        return what == 0 ? best : most;
    }

    // ---- acts

    public boolean move(int person, int column, int row) {
        if (!now.knows(person) || place(column, row) != NONE || !plan.within(column, row)) {
            refused[2]++;
            return false;
        }
        past.remember(now);
        now.put(person, column, row);
        return true;
    }

    public boolean train(int person, int way, int force) {
        if (!now.knows(person) || !isThrow(way, force) || now.throwsSo(person, way, force)) {
            refused[2]++;
            return false;
        }
        past.remember(now);
        now.person[person][WAY] = way;
        now.person[person][FORCE] = force;
        return true;
    }

    public int noons(int n) {
        if (!canTurn(n)) {
            refused[3]++;
            return NONE;
        }
        return turn(n, null);
    }

    public int chance(int n) {
        if (!canTurn(n)) {
            refused[3]++;
            return NONE;
        }
        dice.gusts = 0;
        turn(n, dice);
        return dice.gusts;
    }

    private boolean canTurn(int n) {
        return isTold() && n >= 1 && n <= TURN_MAX && now.noon + n <= NOON_MAX;
    }

    /** Plays n noons as one act; tells in how many one wore it. */
    private int turn(int n, Dice by) {
        past.remember(now);
        int worn = 0;
        for (int k = 0; k < n; k++) {
            int noon = now.noon;
            flight.playNoon(plan, now, by);
            past.keep(noon, now.wearer, flight.beat);
            if (now.wearer != NONE) {
                worn++;
            }
        }
        return worn;
    }

    public boolean undo() {
        if (!past.restore(now)) {
            refused[4]++;
            return false;
        }
        return true;
    }

    public boolean seed(int seed) {
        if (seed < 0) {
            refused[5]++;
            return false;
        }
        dice.seed = seed;
        return true;
    }

    // ---- questions

    public long ask() {
        int length = takeTape();
        if (!isTold()) {
            return NOTHING;
        }
        Word kind = formulas.readQuestion(length, asking);
        keepFault();
        if (fault != 0) {
            return NOTHING;
        }
        flight.prepare(plan, now, now.noon, null);
        if (asking.reads(GETS)) {
            flight.tally();
        }
        if (kind == Word.FIRST || kind == Word.LAST || kind == Word.OFTEN) {
            return answerTest(kind);
        }
        return answerSum(kind);
    }

    private long answerTest(Word kind) {
        int first = NONE;
        int last = NONE;
        int often = 0;
        for (int p = 0; p < now.people; p++) {
            if (flight.valueFor(p, asking) != 0) {
                first = often == 0 ? p : first;
                last = p;
                often++;
            }
        }
        if (kind == Word.OFTEN) {
            return often;
        }
        return kind == Word.FIRST ? first : last;
    }

    private long answerSum(Word kind) {
        long total = 0;
        int most = 0;
        int least = 0;
        for (int p = 0; p < now.people; p++) {
            int value = flight.valueFor(p, asking);
            total += value;
            most = p == 0 ? value : Math.max(most, value);
            least = p == 0 ? value : Math.min(least, value);
        }
        if (kind == Word.TOTAL) {
            return total;
        }
        return kind == Word.MOST ? most : least;
    }

    // ---- images, refusals

    public int image() {
        picture[0] = now.noon >> 8;
        picture[1] = now.noon & 255;
        picture[2] = now.wearer + 1;
        picture[3] = now.terms;
        int length = 4;
        for (int p = 0; p < now.people; p++) {
            int[] of = now.person[p];
            picture[length] = of[COLUMN];
            picture[length + 1] = of[ROW];
            picture[length + 2] = of[WAY];
            picture[length + 3] = of[FORCE];
            picture[length + 4] = of[WORE] >> 8;
            picture[length + 5] = of[WORE] & 255;
            length += 6;
        }
        picture[length] = sealOf(picture, length);
        pictureLength = length + 1;
        return pictureLength;
    }

    private static int sealOf(int[] bytes, int length) {
        int seal = 47;
        for (int k = 0; k < length && k < bytes.length; k++) {
            seal = (3 * seal + bytes[k]) % 251;
        }
        return seal;
    }

    public int octet(int k) {
        return k < 0 || k >= pictureLength ? NONE : picture[k];
    }

    public boolean on() {
        int length = takeTape();
        if (!isTold() || !readImage(length)) {
            refused[5]++;
            return false;
        }
        now.copyFrom(other);
        past.forget();
        return true;
    }

    /** Reads the tape as an image into the other state; tells whether it is one. */
    private boolean readImage(int length) {
        if (length != 5 + 6 * now.people || tape[length - 1] != sealOf(tape, length - 1)) {
            return false;
        }
        other.copyFrom(now);
        other.noon = 256 * tape[0] + tape[1];
        other.wearer = tape[2] - 1;
        other.terms = tape[3];
        if (other.noon > NOON_MAX || other.wearer >= other.people || other.terms > TERMS_MAX) {
            return false;
        }
        if ((other.terms == 0) != (other.wearer == NONE)) {
            return false;
        }
        for (int p = 0; p < other.people; p++) {
            if (!readPerson(p, 4 + 6 * p)) {
                return false;
            }
        }
        return true;
    }

    private boolean readPerson(int p, int from) {
        int column = tape[from];
        int row = tape[from + 1];
        int way = tape[from + 2];
        int force = tape[from + 3];
        int wore = 256 * tape[from + 4] + tape[from + 5];
        if (!plan.within(column, row) || plan.walled(column, row) || !isThrow(way, force)) {
            return false;
        }
        for (int before = 0; before < p; before++) {
            if (other.standsAt(before, column, row)) {
                return false;
            }
        }
        other.put(p, column, row);
        other.person[p][WAY] = way;
        other.person[p][FORCE] = force;
        other.person[p][WORE] = wore;
        return wore <= WORE_MAX;
    }

    public int status(int what) {
        return what < 0 || what >= refused.length ? NONE : refused[what];
    }

    /** The words of the language; a name may be any but the own ones. */
    private enum Word {
        OTHER("", false, NONE, 0),
        SQUARE("square", true, NONE, 0),
        BY("by", true, NONE, 0),
        TOWER("tower", true, NONE, 0),
        HIGH("high", true, NONE, 0),
        LAW_WORD("law", true, NONE, 0),
        PERSON("person", true, NONE, 0),
        AT("at", true, NONE, 0),
        TALL_WORD("tall", true, TALL, IN_MAY | IN_QUESTION),
        PACE_WORD("pace", true, PACE, IN_MAY | IN_QUESTION),
        DOES("does", true, NONE, 0),
        SPIN("spin", true, NONE, 0),
        FORCE_WORD("force", true, FORCE, IN_QUESTION),
        WALL_WORD("wall", true, NONE, 0),
        WINDS("winds", true, NONE, 0),
        MAY("may", true, NONE, 0),
        GUST("gust", true, NONE, 0),
        NOON_WORD("noon", true, NOON, IN_WINDS | IN_MAY | IN_QUESTION),
        HEIGHT_WORD("height", true, HEIGHT, IN_WINDS | IN_MAY),
        WORE_WORD("wore", true, WORE, IN_MAY | IN_QUESTION),
        TERMS_WORD("terms", true, TERMS, IN_MAY | IN_QUESTION),
        COLUMN_WORD("column", true, COLUMN, IN_QUESTION),
        ROW_WORD("row", true, ROW, IN_QUESTION),
        GETS_WORD("gets", true, GETS, IN_QUESTION),
        NUMBER_WORD("number", true, NUMBER, IN_QUESTION),
        OR("or", true, NONE, 0),
        AND("and", true, NONE, 0),
        NOT("not", true, NONE, 0),
        ALL("all", true, NONE, 0),
        MIN("min", true, NONE, 0),
        MAX("max", true, NONE, 0),
        FIRST("first", false, NONE, 0),
        LAST("last", false, NONE, 0),
        OFTEN("often", false, NONE, 0),
        TOTAL("total", false, NONE, 0),
        MOST("most", false, NONE, 0),
        LEAST("least", false, NONE, 0);

        private static final Word[] WORDS = values();
        private static final int[] POWERS = {14348907, 531441, 19683, 729, 27, 1};

        private final int code;
        private final boolean own;
        private final int fact;
        private final int where;

        Word(String text, boolean own, int fact, int where) {
            int sum = 0;
            for (int k = 0; k < LETTERS_MAX; k++) {
                sum = 27 * sum + (k < text.length() ? text.charAt(k) - 'a' + 1 : 0);
            }
            this.code = sum;
            this.own = own;
            this.fact = fact;
            this.where = where;
        }

        /** Letter k of a word held as one number: six places to the base 27, 0 behind it. */
        static int letterOf(int code, int k) {
            return k < 0 || k >= POWERS.length ? NONE : code / POWERS[k] % 27;
        }
    }

    /** Goes along a text token by token and holds the first fault. */
    private static final class Scan {
        private static final int END = 0;
        private static final int WORD = 1;
        private static final int NUMBER_TOKEN = 2;
        private static final int SIGN = 3;
        private static final int GLUED = 4;

        private final int[] text;
        private int length = 0;
        private int kind = END;
        private int at = 0;
        private int to = 0;
        private int value = 0;
        private Word word = Word.OTHER;
        private int takenAt = 0;
        private int fault = 0;
        private int faultAt = NONE;

        Scan(int[] text) {
            this.text = text;
        }

        void start(int many) {
            length = Math.min(many, text.length);
            kind = SIGN;
            at = 0;
            to = 0;
            takenAt = 0;
            fault = 0;
            faultAt = NONE;
            advance();
        }

        /** Goes on to the next token; a word right behind a number is glued, and none takes it. */
        void advance() {
            int before = to;
            boolean wasPlain = kind == WORD || kind == NUMBER_TOKEN;
            takenAt = at;
            at = to;
            while (at < length && (text[at] == 10 || text[at] == 32)) {
                at++;
            }
            int first = at < length ? text[at] : NONE;
            to = Math.min(at + 1, length);
            kind = at < length ? SIGN : END;
            value = first;
            word = Word.OTHER;
            if (first >= 'a' && first <= 'z') {
                kind = WORD;
                while (to < length && text[to] >= 'a' && text[to] <= 'z') {
                    to++;
                }
                value = 0;
                for (int k = 0; k < LETTERS_MAX; k++) {
                    value = 27 * value + (at + k < to ? text[at + k] - 'a' + 1 : 0);
                }
                for (int k = 0; k < Word.WORDS.length && to - at <= LETTERS_MAX; k++) {
                    word = Word.WORDS[k].code == value ? Word.WORDS[k] : word;
                }
            } else if (first >= '0' && first <= '9') {
                kind = NUMBER_TOKEN;
                value = first - '0';
                while (to < length && text[to] >= '0' && text[to] <= '9') {
                    value = to - at < DIGITS_MAX ? 10 * value + text[to] - '0' : value;
                    to++;
                }
            }
            if (wasPlain && at == before && (kind == WORD || kind == NUMBER_TOKEN)) {
                kind = GLUED;
            }
        }

        boolean refuse(int what, int place) {
            if (fault == 0) {
                fault = what;
                faultAt = place;
            }
            return false;
        }

        boolean isAtEnd() {
            return kind == END;
        }

        boolean isNumber() {
            return kind == NUMBER_TOKEN;
        }

        boolean isWord(Word which) {
            return kind == WORD && word == which;
        }

        boolean isSign(int sign) {
            return kind == SIGN && value == sign;
        }

        boolean takeWord(Word which) {
            if (!isWord(which)) {
                return refuse(1, at);
            }
            advance();
            return true;
        }

        boolean takeSign(int sign) {
            if (!isSign(sign)) {
                return refuse(1, at);
            }
            advance();
            return true;
        }

        /** The number that stands here, or NONE with a fault. */
        int takeNumber(int least, int most) {
            int number = value;
            if (kind != NUMBER_TOKEN) {
                refuse(1, at);
                return NONE;
            }
            if (to - at > DIGITS_MAX) {
                refuse(1, at + DIGITS_MAX);
                return NONE;
            }
            if (number < least || number > most) {
                refuse(2, at);
                return NONE;
            }
            advance();
            return number;
        }

        /** The name that stands here as one number, or NONE with a fault. */
        int takeName() {
            int name = value;
            if (kind != WORD || word.own) {
                refuse(1, at);
                return NONE;
            }
            if (to - at > LETTERS_MAX) {
                refuse(1, at + LETTERS_MAX);
                return NONE;
            }
            advance();
            return name;
        }
    }

    /** A sum or a test, its parts ahead of the signs that join them, so that a stack works it out. */
    private static final class Formula {
        private static final int STACK_MAX = 64;
        // Numbers stand as they are, facts as -1, -2 .. and signs below these.
        private static final int SIGNS = -20;
        private static final int ADD = -20;
        private static final int SUBTRACT = -21;
        private static final int MULTIPLY = -22;
        private static final int DIVIDE = -23;
        private static final int LESSER = -24;
        private static final int GREATER = -25;
        private static final int BELOW = -26;
        private static final int ABOVE = -27;
        private static final int SAME = -28;
        private static final int BOTH = -29;
        private static final int EITHER = -30;
        private static final int NEGATE = -31;
        private static final int SPINS = -32;

        private final int[] code = new int[TAPE_MAX];
        private final int[] stack = new int[STACK_MAX];
        private int length = 0;

        void clear() {
            length = 0;
        }

        boolean isTold() {
            return length > 0;
        }

        void add(int op) {
            if (length < code.length) {
                code[length] = op;
                length++;
            }
        }

        void addFact(int fact) {
            add(-1 - fact);
        }

        boolean reads(int fact) {
            for (int k = 0; k < length; k++) {
                if (code[k] == -1 - fact) {
                    return true;
                }
            }
            return false;
        }

        int valueBy(int[] facts) {
            int top = 0;
            for (int k = 0; k < length; k++) {
                int op = code[k];
                if (op > SIGNS && top < STACK_MAX) {
                    stack[top] = op >= 0 ? op : factAt(facts, -1 - op);
                    top++;
                } else if (op == NEGATE && top > 0) {
                    stack[top - 1] = stack[top - 1] == 0 ? 1 : 0;
                } else if (op == SPINS && top > 0) {
                    stack[top - 1] = stack[top - 1] == factAt(facts, WAY) ? 1 : 0;
                } else if (op <= SIGNS && top > 1) {
                    top--;
                    long joined = join(op, stack[top - 1], stack[top]);
                    stack[top - 1] = (int) Math.max(-HELD, Math.min(HELD, joined));
                }
            }
            return top > 0 ? stack[top - 1] : 0;
        }

        private static int factAt(int[] facts, int which) {
            return which >= 0 && which < facts.length ? facts[which] : 0;
        }

        private static long join(int op, long a, long b) {
            switch (op) {
                case ADD: return a + b;
                case SUBTRACT: return a - b;
                case MULTIPLY: return a * b;
                case DIVIDE: return b == 0 ? 0 : Math.floorDiv(a, b);
                case LESSER: return Math.min(a, b);
                case GREATER: return Math.max(a, b);
                case BELOW: return a < b ? 1 : 0;
                case ABOVE: return a > b ? 1 : 0;
                case SAME: return a == b ? 1 : 0;
                case BOTH: return a & b;
                case EITHER: return a | b;
                default: return 0;
            }
        }
    }

    /** Reads sums, tests and questions into formulas. */
    private static final class FormulaReader {
        private final Scan scan;
        private Formula into;
        private int where = 0;
        private int open = 0;

        FormulaReader(Scan scan, Formula into) {
            this.scan = scan;
            this.into = into;
        }

        boolean readSum(Formula formula, int place) {
            startAt(formula, place);
            return sum();
        }

        boolean readTest(Formula formula, int place) {
            startAt(formula, place);
            return test();
        }

        private void startAt(Formula formula, int place) {
            into = formula;
            into.clear();
            where = place;
            open = 0;
        }

        /** Reads a whole question; tells its first word. Any fault is the scan's. */
        Word readQuestion(int length, Formula formula) {
            scan.start(length);
            Word kind = scan.word;
            boolean asksTest = kind == Word.FIRST || kind == Word.LAST || kind == Word.OFTEN;
            boolean asksSum = kind == Word.TOTAL || kind == Word.MOST || kind == Word.LEAST;
            if (!asksTest && !asksSum) {
                scan.refuse(1, scan.at);
                return kind;
            }
            scan.advance();
            boolean good = asksTest ? readTest(formula, IN_QUESTION) : readSum(formula, IN_QUESTION);
            if (good && !scan.isAtEnd()) {
                scan.refuse(1, scan.at);
            }
            return kind;
        }

        private boolean test() {
            if (!both()) {
                return false;
            }
            for (int k = 0; k < TAPE_MAX && scan.isWord(Word.OR); k++) {
                scan.advance();
                if (!both()) {
                    return false;
                }
                into.add(Formula.EITHER);
            }
            return true;
        }

        private boolean both() {
            if (!fact()) {
                return false;
            }
            for (int k = 0; k < TAPE_MAX && scan.isWord(Word.AND); k++) {
                scan.advance();
                if (!fact()) {
                    return false;
                }
                into.add(Formula.BOTH);
            }
            return true;
        }

        private boolean fact() {
            if (scan.isWord(Word.NOT)) {
                if (!opens() || !fact()) {
                    return false;
                }
                open--;
                into.add(Formula.NEGATE);
                return true;
            }
            if (scan.isSign('[')) {
                return opens() && test() && closes(']');
            }
            if (scan.isWord(Word.ALL)) {
                scan.advance();
                into.add(1);
                return true;
            }
            if (!sum()) {
                return false;
            }
            int op = comparing();
            if (op == NONE) {
                return scan.refuse(1, scan.at);
            }
            scan.advance();
            if (!sum()) {
                return false;
            }
            into.add(op);
            return true;
        }

        private int comparing() {
            if (scan.isSign('<')) {
                return Formula.BELOW;
            }
            if (scan.isSign('>')) {
                return Formula.ABOVE;
            }
            return scan.isSign('=') ? Formula.SAME : NONE;
        }

        private boolean sum() {
            if (!product()) {
                return false;
            }
            for (int k = 0; k < TAPE_MAX && (scan.isSign('+') || scan.isSign('-')); k++) {
                int op = scan.isSign('+') ? Formula.ADD : Formula.SUBTRACT;
                scan.advance();
                if (!product()) {
                    return false;
                }
                into.add(op);
            }
            return true;
        }

        private boolean product() {
            if (!part()) {
                return false;
            }
            for (int k = 0; k < TAPE_MAX && (scan.isSign('*') || scan.isSign('/')); k++) {
                int op = scan.isSign('*') ? Formula.MULTIPLY : Formula.DIVIDE;
                scan.advance();
                if (!part()) {
                    return false;
                }
                into.add(op);
            }
            return true;
        }

        private boolean part() {
            if (scan.isNumber()) {
                int number = scan.takeNumber(0, 9999);
                into.add(number);
                return number != NONE;
            }
            if (scan.isSign('(')) {
                return opens() && sum() && closes(')');
            }
            if (scan.isWord(Word.MIN) || scan.isWord(Word.MAX)) {
                return pair(scan.isWord(Word.MIN) ? Formula.LESSER : Formula.GREATER);
            }
            if (scan.isWord(Word.SPIN) && where == IN_QUESTION) {
                if (!opens() || !part()) {
                    return false;
                }
                open--;
                into.add(Formula.SPINS);
                return true;
            }
            Word word = scan.word;
            if (!scan.isWord(word) || (word.where & where) == 0) {
                return scan.refuse(1, scan.at);
            }
            scan.advance();
            into.addFact(word.fact);
            return true;
        }

        private boolean pair(int op) {
            scan.advance();
            if (!scan.isSign('(')) {
                return scan.refuse(1, scan.at);
            }
            if (!opens() || !sum() || !scan.takeSign(',') || !sum() || !closes(')')) {
                return false;
            }
            into.add(op);
            return true;
        }

        /** Takes what opens; the document's limit of what is open at once bounds the recursion. */
        private boolean opens() {
            if (open >= OPEN_MAX) {
                return scan.refuse(4, scan.at);
            }
            open++;
            scan.advance();
            return true;
        }

        private boolean closes(int sign) {
            if (!scan.isSign(sign)) {
                return scan.refuse(1, scan.at);
            }
            open--;
            scan.advance();
            return true;
        }
    }

    /** What the text of a square tells. */
    private static final class Square {
        private int columns = 0;
        private int rows = 0;
        private int towerColumn = 0;
        private int towerRow = 0;
        private int high = 0;
        private int laws = 0;
        private int walls = 0;
        private int gust = 0;
        private final int[] lawNames = new int[LAWS_MAX];
        private final int[] names = new int[PEOPLE_MAX];
        private final int[] wall = new int[PLACES];
        private final int[] landing = new int[THROWS];
        private final Formula winds = new Formula();
        private final Formula may = new Formula();
        private final State start = new State();

        void clear() {
            columns = 0;
            rows = 0;
            laws = 0;
            walls = 0;
            gust = 0;
            Arrays.fill(wall, 0);
            winds.clear();
            may.clear();
            start.clear();
        }

        boolean within(int column, int row) {
            return column >= 0 && column < columns && row >= 0 && row < rows;
        }

        boolean walled(int column, int row) {
            return within(column, row) && wall[SIDE * row + column] != 0;
        }

        boolean hasTowerAt(int column, int row) {
            return column == towerColumn && row == towerRow;
        }

        int lawNamed(int name) {
            for (int k = 0; k < laws; k++) {
                if (lawNames[k] == name) {
                    return k;
                }
            }
            return NONE;
        }

        boolean knowsName(int name) {
            for (int k = 0; k < start.people; k++) {
                if (names[k] == name) {
                    return true;
                }
            }
            return lawNamed(name) != NONE;
        }

        /** Where a hat comes that goes one place by a way, as a place. */
        int beyond(int column, int row, int way) {
            if (!within(column, row) || way < 0 || way >= WAYS) {
                return 0;
            }
            int nextColumn = Math.max(0, Math.min(columns - 1, column + COLUMN_STEPS[way]));
            int nextRow = Math.max(0, Math.min(rows - 1, row + ROW_STEPS[way]));
            if (walled(nextColumn, nextRow)) {
                return SIDE * row + column;
            }
            return SIDE * nextRow + nextColumn;
        }

        /** Works out once where each of the throws comes to, ahead of any wind. */
        void aim() {
            for (int toss = 0; toss < THROWS; toss++) {
                int place = SIDE * towerRow + towerColumn;
                for (int k = 0; k < forceOf(toss); k++) {
                    place = beyond(place % SIDE, place / SIDE, wayOf(toss));
                }
                landing[toss] = place;
            }
        }
    }

    /** Reads the text of a square. */
    private static final class SquareReader {
        private final Scan scan;
        private final FormulaReader formulas;
        private Square into;

        SquareReader(Scan scan, FormulaReader formulas, Square into) {
            this.scan = scan;
            this.formulas = formulas;
            this.into = into;
        }

        /** How many statements it has, or NONE; any fault is the scan's. */
        int read(int length, Square square) {
            into = square;
            into.clear();
            scan.start(length);
            if (!readSquare()) {
                return NONE;
            }
            int statements = 1;
            for (int k = 1; k < STATEMENTS_MAX && !scan.isAtEnd(); k++) {
                if (!readStatement()) {
                    return NONE;
                }
                statements++;
            }
            if (!scan.isAtEnd()) {
                scan.refuse(5, scan.at);
                return NONE;
            }
            into.aim();
            return statements;
        }

        private boolean readSquare() {
            if (!scan.takeWord(Word.SQUARE)) {
                return false;
            }
            into.columns = scan.takeNumber(2, SIDE);
            if (into.columns == NONE || !scan.takeWord(Word.BY)) {
                return false;
            }
            into.rows = scan.takeNumber(2, SIDE);
            if (into.rows == NONE || !scan.takeWord(Word.TOWER)) {
                return false;
            }
            into.towerColumn = scan.takeNumber(0, into.columns - 1);
            if (into.towerColumn == NONE) {
                return false;
            }
            into.towerRow = scan.takeNumber(0, into.rows - 1);
            if (into.towerRow == NONE || !scan.takeWord(Word.HIGH)) {
                return false;
            }
            into.high = scan.takeNumber(1, HIGH_MAX);
            return into.high != NONE && scan.takeSign(';');
        }

        private boolean readStatement() {
            boolean good;
            if (scan.isWord(Word.LAW_WORD)) {
                good = readLaw();
            } else if (scan.isWord(Word.PERSON)) {
                good = readPerson();
            } else if (scan.isWord(Word.WALL_WORD)) {
                good = readWall();
            } else if (scan.isWord(Word.WINDS)) {
                good = takeOne(into.winds) && formulas.readSum(into.winds, IN_WINDS);
            } else if (scan.isWord(Word.MAY)) {
                good = takeOne(into.may) && formulas.readTest(into.may, IN_MAY);
            } else if (scan.isWord(Word.GUST)) {
                good = readGust();
            } else {
                good = scan.refuse(1, scan.at);
            }
            return good && scan.takeSign(';');
        }

        /** Takes the first word of a statement, unless there are already as many as may be. */
        private boolean takeKind(int many, int most) {
            if (many >= most) {
                return scan.refuse(5, scan.at);
            }
            scan.advance();
            return true;
        }

        private boolean takeOne(Formula formula) {
            return takeKind(formula.isTold() ? 1 : 0, 1);
        }

        private boolean readLaw() {
            if (!takeKind(into.laws, LAWS_MAX)) {
                return false;
            }
            int name = takeNewName();
            if (name == NONE) {
                return false;
            }
            into.lawNames[into.laws] = name;
            into.laws++;
            return true;
        }

        private int takeNewName() {
            int name = scan.takeName();
            if (name != NONE && into.knowsName(name)) {
                scan.refuse(3, scan.takenAt);
                return NONE;
            }
            return name;
        }

        private boolean readPerson() {
            if (!takeKind(into.start.people, PEOPLE_MAX)) {
                return false;
            }
            int name = takeNewName();
            if (name == NONE || !scan.takeWord(Word.AT)) {
                return false;
            }
            int place = takePlace(false);
            if (place == NONE || !scan.takeWord(Word.TALL_WORD)) {
                return false;
            }
            int tall = scan.takeNumber(0, 9);
            if (tall == NONE || !scan.takeWord(Word.PACE_WORD)) {
                return false;
            }
            int pace = scan.takeNumber(0, 2);
            if (pace == NONE || !scan.takeWord(Word.DOES)) {
                return false;
            }
            int law = takeLaw();
            if (law == NONE) {
                return false;
            }
            into.names[into.start.people] = name;
            int[] of = into.start.person[into.start.people];
            of[COLUMN] = place % SIDE;
            of[ROW] = place / SIDE;
            of[TALL] = tall;
            of[PACE] = pace;
            of[LAW] = law;
            return readThrow(of);
        }

        private boolean readThrow(int[] of) {
            of[WAY] = 0;
            of[FORCE] = 0;
            into.start.people++;
            if (!scan.isWord(Word.SPIN)) {
                return true;
            }
            scan.advance();
            of[WAY] = scan.takeNumber(0, WAYS - 1);
            if (of[WAY] == NONE || !scan.takeWord(Word.FORCE_WORD)) {
                return false;
            }
            of[FORCE] = scan.takeNumber(0, FORCE_MAX);
            return of[FORCE] != NONE;
        }

        private int takeLaw() {
            int name = scan.takeName();
            if (name == NONE) {
                return NONE;
            }
            int law = into.lawNamed(name);
            if (law == NONE) {
                scan.refuse(3, scan.takenAt);
            }
            return law;
        }

        /** A column and a row where a person or a wall may be, as a place; NONE with a fault. */
        private int takePlace(boolean forWall) {
            int column = scan.takeNumber(0, into.columns - 1);
            if (column == NONE) {
                return NONE;
            }
            int row = scan.takeNumber(0, into.rows - 1);
            if (row == NONE) {
                return NONE;
            }
            boolean full = into.walled(column, row) || into.start.whoStands(column, row) != NONE;
            if (full || forWall && into.hasTowerAt(column, row)) {
                scan.refuse(2, scan.takenAt);
                return NONE;
            }
            return SIDE * row + column;
        }

        private boolean readWall() {
            if (!takeKind(into.walls, WALLS_MAX)) {
                return false;
            }
            int place = takePlace(true);
            if (place == NONE) {
                return false;
            }
            into.wall[place] = 1;
            into.walls++;
            return true;
        }

        private boolean readGust() {
            scan.advance();
            into.gust = scan.takeNumber(0, 100);
            return into.gust != NONE;
        }
    }

    /** How all stands: the noon, who wears it, and the people. */
    private static final class State {
        private int noon = 0;
        private int wearer = NONE;
        private int terms = 0;
        private int people = 0;
        private final int[][] person = new int[PEOPLE_MAX][PERSON_FACTS];

        void clear() {
            noon = 0;
            wearer = NONE;
            terms = 0;
            people = 0;
        }

        void copyFrom(State from) {
            noon = from.noon;
            wearer = from.wearer;
            terms = from.terms;
            people = from.people;
            for (int p = 0; p < people; p++) {
                System.arraycopy(from.person[p], 0, person[p], 0, PERSON_FACTS);
            }
        }

        boolean knows(int p) {
            return p >= 0 && p < people;
        }

        boolean standsAt(int p, int column, int row) {
            return person[p][COLUMN] == column && person[p][ROW] == row;
        }

        int whoStands(int column, int row) {
            for (int p = 0; p < people; p++) {
                if (standsAt(p, column, row)) {
                    return p;
                }
            }
            return NONE;
        }

        void put(int p, int column, int row) {
            person[p][COLUMN] = column;
            person[p][ROW] = row;
        }

        boolean throwsSo(int p, int way, int force) {
            return person[p][WAY] == way && person[p][FORCE] == force;
        }

        int lawOf(int p) {
            return knows(p) ? person[p][LAW] : NONE;
        }

        int lawInForce() {
            return lawOf(wearer);
        }

        int wayNow() {
            return knows(wearer) ? person[wearer][WAY] : 0;
        }

        int forceNow() {
            return knows(wearer) ? person[wearer][FORCE] : 0;
        }

        void tellFacts(int p, int[] facts) {
            System.arraycopy(person[p], 0, facts, 0, PERSON_FACTS);
            facts[NUMBER] = p;
            facts[TERMS] = p == wearer ? terms : 0;
        }

        /** Ends a noon in which a person, or none, got it. */
        void wear(int who) {
            if (!knows(who)) {
                terms = 0;
            } else {
                terms = who == wearer ? Math.min(TERMS_MAX, terms + 1) : 1;
                person[who][WORE] = Math.min(WORE_MAX, person[who][WORE] + 1);
            }
            wearer = who;
            noon = Math.min(NOON_MAX, noon + 1);
        }
    }

    /** The seed and what is drawn by it. */
    private static final class Dice {
        private long seed = 1;
        private int gusts = 0;

        int draw(int many) {
            seed = (1103515245L * seed + 12345L) & 2147483647L;
            return many < 1 ? 0 : (int) (seed / 64 % many);
        }
    }

    /** The hat in the air, and the people below who run for it. */
    private static final class Flight {
        private static final int UNKNOWN = -2;

        private Square square;
        private State state;
        private Dice dice = null;
        private int hatColumn = 0;
        private int hatRow = 0;
        private int height = 0;
        private int beat = 0;
        private int who = NONE;
        private final int[] columns = new int[PEOPLE_MAX];
        private final int[] rows = new int[PEOPLE_MAX];
        private final int[] taken = new int[PLACES];
        private final int[] facts = new int[FACTS];
        private final int[] windAt = new int[HIGH_MAX + 1];
        private final int[] mayAt = new int[PEOPLE_MAX * (HIGH_MAX + 1)];
        private final int[] whoFrom = new int[PLACES];
        private final int[] gets = new int[PEOPLE_MAX];

        Flight(Square square, State state) {
            this.square = square;
            this.state = state;
        }

        /** Makes ready for throws in one noon: winds and may ask of nothing that a throw changes. */
        void prepare(Square plan, State people, int noon, Dice by) {
            square = plan;
            state = people;
            dice = by;
            facts[NOON] = noon;
            Arrays.fill(windAt, UNKNOWN);
            Arrays.fill(mayAt, UNKNOWN);
            forgetFlights();
        }

        void forgetFlights() {
            Arrays.fill(whoFrom, UNKNOWN);
        }

        void playNoon(Square plan, State people, Dice by) {
            prepare(plan, people, people.noon, by);
            fly(plan.landing[throwNumber(people.wayNow(), people.forceNow())]);
            people.wear(who);
        }

        /** Who gets a throw of the 33; many come to one place, so each place is tried once. */
        int got(int toss) {
            int start = square.landing[toss];
            if (whoFrom[start] == UNKNOWN) {
                fly(start);
                whoFrom[start] = who;
            }
            return whoFrom[start];
        }

        int firstGot(int person) {
            for (int toss = 0; toss < THROWS; toss++) {
                if (got(toss) == person) {
                    return toss;
                }
            }
            return NONE;
        }

        /** Counts for each person how many of the 33 he gets. */
        void tally() {
            Arrays.fill(gets, 0);
            for (int toss = 0; toss < THROWS; toss++) {
                int one = got(toss);
                if (state.knows(one)) {
                    gets[one]++;
                }
            }
        }

        /** What a question's formula makes of a person; it asks of gets only behind a tally. */
        int valueFor(int p, Formula formula) {
            if (!state.knows(p)) {
                return 0;
            }
            state.tellFacts(p, facts);
            facts[GETS] = gets[p];
            return formula.valueBy(facts);
        }

        int countGot(int person) {
            int count = 0;
            for (int toss = 0; toss < THROWS; toss++) {
                if (got(toss) == person) {
                    count++;
                }
            }
            return count;
        }

        void fly(int start) {
            hatColumn = start % SIDE;
            hatRow = start / SIDE;
            height = square.high;
            beat = 0;
            who = NONE;
            gather();
            for (int k = 0; k < HIGH_MAX && height > 0 && who == NONE; k++) {
                beat++;
                int place = square.beyond(hatColumn, hatRow, wind());
                hatColumn = place % SIDE;
                hatRow = place / SIDE;
                height--;
                for (int p = 0; p < state.people; p++) {
                    run(p);
                }
                who = catcher();
            }
        }

        private void gather() {
            System.arraycopy(square.wall, 0, taken, 0, PLACES);
            for (int p = 0; p < state.people; p++) {
                columns[p] = state.person[p][COLUMN];
                rows[p] = state.person[p][ROW];
                taken[SIDE * rows[p] + columns[p]] = 1;
            }
        }

        private int wind() {
            if (dice != null && dice.draw(100) < square.gust) {
                dice.gusts++;
                return dice.draw(WAYS);
            }
            if (windAt[height] == UNKNOWN) {
                facts[HEIGHT] = height;
                windAt[height] = Math.floorMod(square.winds.valueBy(facts), WAYS);
            }
            return windAt[height];
        }

        private int farFromHat(int column, int row) {
            return Math.max(Math.abs(column - hatColumn), Math.abs(row - hatRow));
        }

        private void run(int p) {
            for (int k = 0; k < state.person[p][PACE]; k++) {
                if (!step(p)) {
                    return;
                }
            }
        }

        /**
         * One step of a person. None of the places next to his is nearer by more than one, and
         * his own goes ahead of like ones: so he takes the first that is nearer, or stays.
         */
        private boolean step(int p) {
            int far = farFromHat(columns[p], rows[p]);
            for (int way = 1; way < WAYS && far > 0; way++) {
                int column = columns[p] + COLUMN_STEPS[way];
                int row = rows[p] + ROW_STEPS[way];
                boolean nearer = farFromHat(column, row) < far && square.within(column, row);
                if (nearer && taken[SIDE * row + column] == 0) {
                    taken[SIDE * rows[p] + columns[p]] = 0;
                    columns[p] = column;
                    rows[p] = row;
                    taken[SIDE * row + column] = 1;
                    return true;
                }
            }
            return false;
        }

        private int catcher() {
            int best = NONE;
            int bestTall = 0;
            int bestFar = 0;
            for (int p = 0; p < state.people; p++) {
                int tall = state.person[p][TALL];
                int far = farFromHat(columns[p], rows[p]);
                boolean better = best == NONE || tall > bestTall || tall == bestTall && far < bestFar;
                int asked = (HIGH_MAX + 1) * p + height;
                if (better && far <= 1 && tall >= height && mayAt[asked] == UNKNOWN) {
                    state.tellFacts(p, facts);
                    facts[HEIGHT] = height;
                    mayAt[asked] = square.may.isTold() ? square.may.valueBy(facts) : 1;
                }
                if (better && far <= 1 && tall >= height && mayAt[asked] != 0) {
                    best = p;
                    bestTall = tall;
                    bestFar = far;
                }
            }
            return best;
        }
    }

    /** What was: the noons kept, and how all stood ahead of each act. */
    private static final class Past {
        private final int[][] noons = new int[3][NOON_MAX];
        private int length = 0;
        private final State[] before = new State[ACTS_MAX];
        private final int[] lengthBefore = new int[ACTS_MAX];
        private int next = 0;
        private int acts = 0;

        Past() {
            for (int k = 0; k < ACTS_MAX; k++) {
                before[k] = new State();
            }
        }

        void forget() {
            length = 0;
            acts = 0;
        }

        /** All noons are kept, so that an undone act leaves the older ones to be told again. */
        void keep(int noon, int wearer, int beat) {
            if (length < NOON_MAX) {
                noons[0][length] = noon;
                noons[1][length] = wearer == NONE ? NOBODY : wearer;
                noons[2][length] = beat;
                length++;
            }
        }

        int told() {
            return Math.min(length, TOLD_MAX);
        }

        int toldOf(int k, int what) {
            if (k < 0 || k >= told() || what < 0 || what > 2) {
                return NONE;
            }
            return noons[what][length - told() + k];
        }

        void remember(State now) {
            before[next].copyFrom(now);
            lengthBefore[next] = length;
            next = (next + 1) % ACTS_MAX;
            acts = Math.min(ACTS_MAX, acts + 1);
        }

        boolean restore(State now) {
            if (acts == 0) {
                return false;
            }
            acts--;
            next = (next + ACTS_MAX - 1) % ACTS_MAX;
            now.copyFrom(before[next]);
            length = lengthBefore[next];
            return true;
        }
    }
}
