import java.util.Arrays;
import java.util.NoSuchElementException;

/** The sleepwalkers carry the post; the document ../shared/DOC.md says what each call answers. */
public final class SleepPost {
    public static final int NONE = -1;

    private static final int NOT_SO = -2;
    private static final int TOO_MANY_LIE = -3;
    private static final int TAPE = 700;
    private static final int HOUSES = 8;
    private static final int STREETS = 12;
    private static final int SLEEPERS = 5;
    private static final int LETTERS = 8;
    private static final int LAMPS = 6;
    private static final int HOURS = 12;
    private static final int SIGHTS = 24;
    private static final int CHANGES = 20;
    private static final int LAST_NIGHT = 999;
    private static final int CAT_NOISE = 3;
    private static final int NO_WAY = 99;
    private static final long ERROR = Long.MIN_VALUE;

    private final byte[] tape = new byte[TAPE];
    private int taped = 0;
    private Town town = new Town();
    private Town spareTown = new Town();
    private final Reader reader = new Reader(spareTown);
    private final World now = new World();
    private final World image = new World();
    private boolean imageKept = false;
    private final Night night = new Night(town);
    private final Sights sights = new Sights();
    private final Changes changes = new Changes();
    private final Tries tries = new Tries(now, night, sights);

    public SleepPost() {
        town.clear();
        begin();
    }

    public int feed(int a, int b, int c, int d, int e) {
        if (taped + 20 > TAPE) {
            return NONE;
        }
        append(a);
        append(b);
        append(c);
        append(d);
        append(e);
        return taped;
    }

    public int text(int n) {
        if (n < 0 || n > taped) {
            return NOT_SO;
        }
        taped = 0;
        spareTown.clear();
        if (!reader.read(tape, n, spareTown)) {
            return NONE;
        }
        Town told = spareTown;
        spareTown = town;
        town = told;
        begin();
        return reader.lines;
    }

    public int fault(int what) {
        switch (what) {
            case 0:
                return reader.fault;
            case 1:
                return reader.faultPlace;
            default:
                return NONE;
        }
    }

    public int named(int what, int letters) {
        switch (what) {
            case 0:
                return numberOf(letters, town.houseNames, town.houses);
            case 1:
                return numberOf(letters, town.sleeperNames, town.sleepers);
            default:
                return NONE;
        }
    }

    public int look(int sleeper, int what) throws IndexOutOfBoundsException, NoSuchElementException {
        if (!isSleeper(sleeper)) {
            throw new IndexOutOfBoundsException("no such sleeper");
        }
        switch (what) {
            case 0:
                return now.at[sleeper];
            case 1:
                return town.bed[sleeper];
            case 2:
                return town.dream[sleeper];
            case 3:
                return town.deep[sleeper];
            case 4:
                return now.woken >> sleeper & 1;
            case 5:
                return now.hand[sleeper];
            default:
                throw new NoSuchElementException("no such what");
        }
    }

    public int letter(int letter, int what) {
        if (!isLetter(letter)) {
            return NONE;
        }
        switch (what) {
            case 0:
                return town.goesTo[letter];
            case 1:
                return placeOf(letter);
            case 2:
                return now.hasArrived(letter) ? 2 : now.holder(letter) != NONE ? 1 : 0;
            case 3:
                return now.had[letter];
            default:
                return NONE;
        }
    }

    public int far(int one, int other) {
        return isHouse(one) && isHouse(other) ? town.far[one * HOUSES + other] : NONE;
    }

    public int at(int house, int hour, int what) {
        if (!isHouse(house) || hour < 0 || hour >= HOURS) {
            return NONE;
        }
        night.suit(town, now);
        switch (what) {
            case 0:
                return night.light(now, house, hour);
            case 1:
                return night.noise[house];
            default:
                return NONE;
        }
    }

    public long law(int what, int sleeper, int house) {
        if (what < 0 || what >= Laws.RULES || !isSleeper(sleeper) || !isHouse(house)) {
            return ERROR;
        }
        night.suit(town, now);
        int way = what == Laws.PULL ? town.ways[now.at[sleeper] * HOUSES + house] : 0;
        return night.worth(what, night.names(now, sleeper, house, way));
    }

    public boolean lay(int letter, int sleeper) {
        if (!isLetter(letter) || !isSleeper(sleeper)) {
            return false;
        }
        int from = now.lyingIn(letter);
        int to = town.bed[sleeper];
        if (from == NONE || from == to) {
            return false;
        }
        changes.add(Changes.LAID, letter, from);
        now.shift(letter, from, to);
        return true;
    }

    public boolean lit(int house, boolean is) {
        if (!isHouse(house) || (now.lit >> house & 1) == (is ? 1 : 0)) {
            return false;
        }
        changes.add(Changes.LIT, house, 0);
        now.lit ^= 1 << house;
        return true;
    }

    public boolean bell(int house, int loud) {
        if (!isHouse(house) || loud < 0 || loud > 9 || now.bells[house] == loud) {
            return false;
        }
        changes.add(Changes.RUNG, house, now.bells[house]);
        now.bells[house] = loud;
        return true;
    }

    public int hours(int n) {
        if (n < 0 || n > 3 * HOURS || now.night + (now.hour + n) / HOURS > LAST_NIGHT) {
            return NONE;
        }
        if (n > 0) {
            changes.size = 0;
        }
        night.suit(town, now);
        night.byNumbers = true;
        for (int i = 0; i < n; i++) {
            night.walkTo(now, now.hour);
            now.passHour(town);
        }
        return now.hour;
    }

    public int where(int sleeper, int hour) {
        if (!isSleeper(sleeper) || !isAhead(hour)) {
            return NONE;
        }
        tries.goTonight(town);
        return night.stood(sleeper, hour);
    }

    public int match(int letter) {
        if (!isLetter(letter)) {
            return NONE;
        }
        return now.lyingIn(letter) == NONE ? NOT_SO : tries.carrier(town, letter);
    }

    public int lead(int sleeper, int house, int hour) {
        if (!isSleeper(sleeper) || !isHouse(house) || !isAhead(hour)) {
            return NONE;
        }
        return tries.fewestLamps(town, sleeper, house, hour);
    }

    public int chain(int letter) {
        if (!isLetter(letter)) {
            return NONE;
        }
        return now.hasArrived(letter) ? 0 : tries.nightOfArrival(town, letter);
    }

    public int meet(int one, int other) {
        if (!isSleeper(one) || !isSleeper(other) || one == other) {
            return NONE;
        }
        tries.goTonight(town);
        int met = 0;
        for (int hour = now.hour; hour < HOURS; hour++) {
            if (night.stood(one, hour) == night.stood(other, hour)) {
                met |= 1 << hour;
            }
        }
        return met;
    }

    public int sight(int hour, int sleeper, int house) {
        if (hour < 0 || hour >= HOURS || !isSleeper(sleeper) || !isHouse(house)) {
            return NONE;
        }
        return sights.add(hour, sleeper, house);
    }

    public int strike(int sight) {
        return sight < 0 || sight >= sights.size ? NONE : sights.addStrike(sight);
    }

    public boolean known(int n) {
        if (n < Sights.ALL || n > sights.size) {
            return false;
        }
        sights.knownBy = n;
        return true;
    }

    public int dreamt(int sleeper) {
        return isSleeper(sleeper) ? tries.dreams(town, sleeper) : NONE;
    }

    public int tells(int sleeper, int what) {
        if (!isSleeper(sleeper) || what < 0 || what > 1) {
            return NONE;
        }
        if (tries.dreams(town, sleeper) == 0) {
            return NOT_SO;
        }
        int hour = tries.tellingHour();
        return what == 0 ? hour : tries.unlikeHouses(hour);
    }

    public int rests(int one, int other) {
        if (!areSingers(one, other)) {
            return NONE;
        }
        tries.findRests(town, one, other);
        return tries.rests;
    }

    public int rest(int one, int other, int k) {
        if (!areSingers(one, other) || k < 0) {
            return NONE;
        }
        tries.findRests(town, one, other);
        return k < tries.rests ? tries.restHouses[k] : NOT_SO;
    }

    public int brought(int house) {
        if (!isHouse(house)) {
            return NONE;
        }
        tries.goTonight(town);
        int here = 0;
        for (int sleeper = 0; sleeper < town.sleepers; sleeper++) {
            for (int hour = now.hour; hour < HOURS; hour++) {
                if (night.stood(sleeper, hour) == house) {
                    here |= 1 << sleeper;
                }
            }
        }
        return here;
    }

    public int cost(int sleepers) {
        int all = town.allSleepers();
        if (sleepers < 0 || sleepers > all) {
            return NONE;
        }
        return Math.max(0, tries.arrivals(town, all) - tries.arrivals(town, all & ~sleepers));
    }

    public int need() {
        return tries.fewestWalkers(town);
    }

    public int chance(int seed, int letter, int n) {
        if (seed < 0 || !isLetter(letter) || n < 1 || n > 9) {
            return NONE;
        }
        return tries.luckyTimes(town, seed, letter, n);
    }

    public int tried(int what, int i) {
        if (what < 0 || what > 7) {
            return NONE;
        }
        int choices = what == 6 ? town.sleepers : what == 7 ? town.streets : 1;
        return i < 0 || i >= choices ? NONE : tries.otherwise(town, what, i);
    }

    public int undo() {
        if (changes.size == 0) {
            return NONE;
        }
        int last = changes.size - 1;
        int which = changes.which[last];
        int before = changes.before[last];
        switch (changes.kind[last]) {
            case Changes.LAID:
                now.shift(which, now.lyingIn(which), before);
                break;
            case Changes.LIT:
                now.lit ^= 1 << which;
                break;
            default:
                now.bells[which] = before;
                break;
        }
        changes.size = last;
        return last;
    }

    public int keep() {
        image.become(now);
        imageKept = true;
        return now.night;
    }

    public int back() {
        if (!imageKept) {
            return NONE;
        }
        now.become(image);
        changes.size = 0;
        return now.night;
    }

    public int count(int what) {
        switch (what) {
            case 0:
                return town.houses;
            case 1:
                return town.streets;
            case 2:
                return town.sleepers;
            case 3:
                return town.letters;
            case 4:
                return town.lamps;
            case 5:
                return town.laws.knots;
            case 6:
                return now.hour;
            case 7:
                return now.night;
            case 8:
                return Integer.bitCount(now.arrived);
            case 9:
                return now.lettersInHand();
            case 10:
                return Integer.bitCount(now.woken);
            case 11:
                return now.lit;
            case 12:
                return sights.size;
            case 13:
                return sights.knownCount();
            case 14:
                return changes.size;
            default:
                return NONE;
        }
    }

    private void append(int four) {
        for (int shift = 24; shift >= 0 && taped < TAPE; shift -= 8) {
            tape[taped] = (byte) (four >> shift);
            taped++;
        }
    }

    private void begin() {
        now.begin(town);
        night.forget();
        sights.clear();
        imageKept = false;
        changes.size = 0;
    }

    private boolean isHouse(int house) {
        return house >= 0 && house < town.houses;
    }

    private boolean isSleeper(int sleeper) {
        return sleeper >= 0 && sleeper < town.sleepers;
    }

    private boolean isLetter(int letter) {
        return letter >= 0 && letter < town.letters;
    }

    private boolean isAhead(int hour) {
        return hour >= now.hour && hour < HOURS;
    }

    private boolean areSingers(int one, int other) {
        return one >= 1 && one <= 9 && other >= 1 && other <= 9 && town.houses > 0;
    }

    private int placeOf(int letter) {
        if (now.hasArrived(letter)) {
            return town.goesTo[letter];
        }
        int holder = now.holder(letter);
        return holder != NONE ? holder : now.lyingIn(letter);
    }

    private static int numberOf(int name, int[] names, int count) {
        for (int i = 0; i < count && i < names.length; i++) {
            if (names[i] == name) {
                return i;
            }
        }
        return NONE;
    }

    /** What a TEXT tells: nothing of it changes before the next TEXT. */
    private static final class Town {
        int houses;
        int streets;
        int sleepers;
        int letters;
        int lamps;
        int cats;
        int seed;
        final int[] houseNames = new int[HOUSES];
        final int[] sleeperNames = new int[SLEEPERS];
        final int[] streetEnds = new int[STREETS];
        final int[] ways = new int[HOUSES * HOUSES];
        final int[] far = new int[HOUSES * HOUSES];
        final int[] bed = new int[SLEEPERS];
        final int[] deep = new int[SLEEPERS];
        final int[] dream = new int[SLEEPERS];
        final int[] laidBy = new int[LETTERS];
        final int[] goesTo = new int[LETTERS];
        final int[] mailFor = new int[HOUSES];
        final int[] lampHours = new int[HOUSES];
        final int[] bells = new int[HOUSES];
        final int[] singers = new int[HOUSES];
        final Laws laws = new Laws();

        void clear() {
            houses = 0;
            streets = 0;
            sleepers = 0;
            letters = 0;
            lamps = 0;
            cats = 0;
            seed = 0;
            Arrays.fill(ways, 0);
            Arrays.fill(mailFor, 0);
            Arrays.fill(lampHours, 0);
            Arrays.fill(bells, 0);
            Arrays.fill(singers, 0);
            laws.clear();
        }

        void addStreet(int one, int other, int length) {
            streetEnds[streets] = one * HOUSES + other;
            streets++;
            join(ways, one * HOUSES + other, length);
        }

        void addLetter(int sleeper, int house) {
            laidBy[letters] = sleeper;
            goesTo[letters] = house;
            mailFor[house] |= 1 << letters;
            letters++;
        }

        int allHouses() {
            return (1 << houses) - 1;
        }

        int allSleepers() {
            return (1 << sleepers) - 1;
        }

        static void join(int[] ways, int ends, int length) {
            ways[ends] = length;
            ways[ends % HOUSES * HOUSES + ends / HOUSES] = length;
        }

        static void measure(int[] ways, int[] far) {
            for (int i = 0; i < far.length; i++) {
                far[i] = i / HOUSES == i % HOUSES ? 0 : ways[i] > 0 ? ways[i] : NO_WAY;
            }
            for (int over = 0; over < HOUSES; over++) {
                for (int i = 0; i < far.length; i++) {
                    int round = far[i / HOUSES * HOUSES + over] + far[over * HOUSES + i % HOUSES];
                    far[i] = Math.min(far[i], round);
                }
            }
        }
    }

    /** The laws' E, each as a row of KNOTS with the two sides ahead of their sign. */
    private static final class Laws {
        static final int RULES = 3;
        static final int PULL = 0;
        static final int WAKE = 1;
        static final int DROP = 2;
        static final int MOST_KNOTS = 64;
        static final int MOST_NUMBER = 9999;
        /** A KNOT from here on is no number, but a kind of TOKEN. */
        static final int FIRST_KIND = MOST_NUMBER + 1;

        // The NAMES of a place and time are kept in the bits of one number: deep far light noise mail hour way.
        static final int DEEP_SHIFT = 12;
        static final int FAR_SHIFT = 22;
        static final int LIGHT_SHIFT = 29;
        static final int NOISE_SHIFT = 16;
        static final int MAIL_SHIFT = 8;
        static final int HOUR_SHIFT = 4;
        static final int RULE_SHIFT = 30;
        private static final int[] SHIFTS = {
            DEEP_SHIFT, FAR_SHIFT, LIGHT_SHIFT, NOISE_SHIFT, MAIL_SHIFT, HOUR_SHIFT, 0
        };
        private static final int[] MASKS = {15, 127, 1, 63, 15, 15, 15};

        int knots;
        int written;
        final int[] row = new int[MOST_KNOTS];
        final int[] start = new int[RULES];
        final int[] end = new int[RULES];
        final int[] used = new int[RULES];

        void clear() {
            knots = 0;
            written = 0;
            Arrays.fill(start, 0);
            Arrays.fill(end, 0);
            Arrays.fill(used, 0);
        }

        boolean has(int rule) {
            return end[rule] > start[rule];
        }

        boolean usesLight() {
            return ((used[PULL] | used[WAKE] | used[DROP]) >> LIGHT_SHIFT & 1) != 0;
        }

        void open(int rule) {
            start[rule] = written;
            end[rule] = written;
        }

        void write(int rule, int knot) {
            if (written >= MOST_KNOTS) {
                return;
            }
            row[written] = knot;
            written++;
            end[rule] = written;
            int name = knot - FIRST_KIND - Tokens.DEEP;
            if (name >= 0 && name < SHIFTS.length) {
                used[rule] |= MASKS[name] << SHIFTS[name];
            }
        }

        static boolean isName(int name) {
            return name >= 0 && name < SHIFTS.length;
        }

        static int nameIn(int names, int name) {
            return names >> SHIFTS[name] & MASKS[name];
        }
    }

    /** The TEXT cut into TOKENS; one of them is looked at. */
    private static final class Tokens {
        static final int END = 0;
        static final int BAD = 1;
        static final int NUMBER = 2;
        static final int NAME = 3;
        static final int HOUSE = 4;
        static final int STREET = 5;
        static final int SLEEPER = 6;
        static final int LETTER = 7;
        static final int LAMP = 8;
        static final int BELL = 9;
        static final int CAT = 10;
        static final int CORNER = 11;
        static final int SEED = 12;
        static final int LAW = 13;
        static final int PULL = 14;
        static final int DROP = 16;
        static final int OR = 17;
        static final int AND = 18;
        static final int NOT = 19;
        static final int DEEP = 20;
        static final int WAY = 26;
        static final int STOP = 27;
        static final int OPEN = 28;
        static final int CLOSE = 29;
        static final int PLUS = 30;
        static final int MINUS = 31;
        static final int TIMES = 32;
        static final int OVER = 33;
        static final int LESS = 34;
        static final int NOT_MORE = 35;
        static final int SAME = 36;
        static final int UNLIKE = 37;
        static final int NOT_LESS = 38;
        static final int MORE = 39;

        /** In the order of their kinds, from HOUSE on. */
        private static final String WORDS =
            "house street sleeper letter lamp bell cat corner seed law pull wake drop or and not deep far light noise mail hour way ";
        /** In the order of their kinds, from STOP on. */
        private static final String SIGNS = ";()+-*/";
        private static final int NAME_LENGTH = 6;
        /** Above all numbers that a TEXT may have: longer rows of digits count no higher. */
        private static final int GREAT = 1000000;

        private byte[] text = new byte[0];
        private int length;
        private int next;
        int kind;
        int place;
        int value;

        void begin(byte[] newText, int newLength) {
            text = newText;
            length = Math.min(newLength, newText.length);
            next = 0;
            advance();
        }

        void advance() {
            while (next < length && (text[next] == ' ' || text[next] == '\n')) {
                next++;
            }
            place = next;
            if (next >= length) {
                kind = END;
            } else if (isSmallLetter(next)) {
                readWord();
            } else if (isDigit(next)) {
                readNumber();
            } else {
                readSign();
            }
        }

        private boolean isSmallLetter(int i) {
            return i < length && text[i] >= 'a' && text[i] <= 'z';
        }

        private boolean isDigit(int i) {
            return i < length && text[i] >= '0' && text[i] <= '9';
        }

        private boolean isAt(int i, char sign) {
            return i < length && text[i] == sign;
        }

        private void readNumber() {
            kind = NUMBER;
            value = 0;
            while (next < length && isDigit(next)) {
                value = Math.min(GREAT, value * 10 + text[next] - '0');
                next++;
            }
        }

        private void readWord() {
            while (next < length && isSmallLetter(next)) {
                next++;
            }
            int word = wordNumber();
            if (word != NONE) {
                kind = HOUSE + word;
            } else if (next - place > NAME_LENGTH) {
                kind = BAD;
            } else {
                kind = NAME;
                value = 0;
                for (int i = place; i < place + NAME_LENGTH; i++) {
                    value = value << 5 | (i < next ? text[i] - 'a' + 1 : 0);
                }
            }
        }

        private int wordNumber() {
            int word = 0;
            int compared = place;
            boolean same = true;
            for (int i = 0; i < WORDS.length(); i++) {
                if (WORDS.charAt(i) != ' ') {
                    same = same && compared < next && text[compared] == WORDS.charAt(i);
                    compared++;
                } else if (same && compared == next) {
                    return word;
                } else {
                    word++;
                    compared = place;
                    same = true;
                }
            }
            return NONE;
        }

        private void readSign() {
            char sign = (char) (text[next] & 255);
            next++;
            switch (sign) {
                case '<':
                    kind = isAt(next, '=') ? NOT_MORE : isAt(next, '>') ? UNLIKE : LESS;
                    break;
                case '>':
                    kind = isAt(next, '=') ? NOT_LESS : MORE;
                    break;
                case '=':
                    kind = SAME;
                    break;
                default:
                    int number = SIGNS.indexOf(sign);
                    kind = number < 0 ? BAD : STOP + number;
                    break;
            }
            if (kind == NOT_MORE || kind == UNLIKE || kind == NOT_LESS) {
                next++;
            }
        }
    }

    /** Reads the E of a law, with the signs that wait for their right side on a stack. */
    private static final class Expression {
        private static final int MOST_OPEN = 8;
        private static final int COMPARES = 4;

        private final Tokens tokens;
        private Laws laws;
        private int rule;
        private final int[] waiting = new int[Laws.MOST_KNOTS + MOST_OPEN];
        private int waits;
        private final boolean[] compared = new boolean[MOST_OPEN + 1];
        private int open;
        private boolean sideDue;
        private boolean notMayStand;

        Expression(Tokens tokens, Laws laws) {
            this.tokens = tokens;
            this.laws = laws;
        }

        /** Up to the ';', which is not taken: the FAULT of the TOKEN looked at, or 0. */
        int read(Laws newLaws, int newRule) {
            laws = newLaws;
            rule = newRule;
            laws.open(rule);
            waits = 0;
            open = 0;
            compared[0] = false;
            sideDue = true;
            notMayStand = true;
            int fault = 0;
            for (int i = 0; i <= TAPE && fault == 0; i++) {
                if (tokens.kind == Tokens.STOP && !sideDue && open == 0) {
                    settle(0);
                    return 0;
                }
                fault = sideDue ? readSide() : readSign();
                if (fault == 0) {
                    tokens.advance();
                }
            }
            return fault;
        }

        private int readSide() {
            int kind = tokens.kind;
            if (kind == Tokens.OPEN) {
                return readOpen();
            }
            if (kind == Tokens.NOT && notMayStand) {
                return await(kind);
            }
            boolean number = kind == Tokens.NUMBER;
            if (!number && (kind < Tokens.DEEP || kind > Tokens.WAY)) {
                return Reader.MISPLACED;
            }
            if (number && tokens.value > Laws.MOST_NUMBER || laws.knots >= Laws.MOST_KNOTS) {
                return Reader.TOO_MUCH;
            }
            laws.knots++;
            laws.write(rule, number ? tokens.value : Laws.FIRST_KIND + kind);
            sideDue = false;
            return 0;
        }

        private int readOpen() {
            if (open >= MOST_OPEN || waits >= waiting.length) {
                return Reader.TOO_MUCH;
            }
            waiting[waits] = Tokens.OPEN;
            waits++;
            open++;
            compared[open] = false;
            notMayStand = true;
            return 0;
        }

        private int readSign() {
            int kind = tokens.kind;
            if (kind == Tokens.CLOSE && open > 0) {
                settle(0);
                waits--;
                open--;
                return 0;
            }
            int binds = binding(kind);
            boolean compares = binds == COMPARES;
            if (binds == 0 || kind == Tokens.NOT || compares && compared[open]) {
                return Reader.MISPLACED;
            }
            settle(binds);
            compared[open] = compares || compared[open] && binds > COMPARES;
            sideDue = true;
            notMayStand = binds < COMPARES;
            return await(kind);
        }

        private int await(int kind) {
            if (laws.knots >= Laws.MOST_KNOTS || waits >= waiting.length) {
                return Reader.TOO_MUCH;
            }
            laws.knots++;
            waiting[waits] = kind;
            waits++;
            return 0;
        }

        /** Signs that bind at least so much have both sides: down to the latest '(', at most. */
        private void settle(int binds) {
            while (waits > 0 && waiting[waits - 1] != Tokens.OPEN && binding(waiting[waits - 1]) >= binds) {
                waits--;
                laws.write(rule, Laws.FIRST_KIND + waiting[waits]);
            }
        }

        private static int binding(int kind) {
            switch (kind) {
                case Tokens.OR:
                    return 1;
                case Tokens.AND:
                    return 2;
                case Tokens.NOT:
                    return 3;
                case Tokens.PLUS:
                case Tokens.MINUS:
                    return 5;
                case Tokens.TIMES:
                case Tokens.OVER:
                    return 6;
                default:
                    return kind >= Tokens.LESS ? COMPARES : 0;
            }
        }
    }

    /** Reads a TEXT into a town that is clear, up to the first FAULT. */
    private static final class Reader {
        static final int MISPLACED = 1;
        static final int TOO_MUCH = 2;
        static final int TOLD = 3;
        static final int UNTOLD = 4;
        static final int LOOP = 5;

        private final Tokens tokens = new Tokens();
        private final Expression expression;
        private Town town;
        private boolean seeded;
        private int found;
        int lines;
        int fault;
        int faultPlace = NONE;

        Reader(Town town) {
            this.town = town;
            expression = new Expression(tokens, town.laws);
        }

        boolean read(byte[] text, int length, Town newTown) {
            town = newTown;
            seeded = false;
            lines = 0;
            fault = 0;
            faultPlace = NONE;
            tokens.begin(text, length);
            for (int i = 0; i < length && tokens.kind != Tokens.END; i++) {
                if (!readLine() || !pass(Tokens.STOP)) {
                    return false;
                }
                lines++;
            }
            Town.measure(town.ways, town.far);
            return true;
        }

        private boolean fail(int newFault) {
            fault = newFault;
            faultPlace = tokens.place;
            return false;
        }

        private boolean pass(int kind) {
            if (tokens.kind != kind) {
                return fail(MISPLACED);
            }
            tokens.advance();
            return true;
        }

        private boolean readLine() {
            switch (tokens.kind) {
                case Tokens.HOUSE:
                    return readHouse();
                case Tokens.STREET:
                    return readStreet();
                case Tokens.SLEEPER:
                    return readSleeper();
                case Tokens.LETTER:
                    return readLetter();
                case Tokens.LAMP:
                    return readLamp();
                case Tokens.BELL:
                    return readLoud(town.bells);
                case Tokens.CAT:
                    return readCat();
                case Tokens.CORNER:
                    return readLoud(town.singers);
                case Tokens.SEED:
                    return readSeed();
                case Tokens.LAW:
                    return readLaw();
                default:
                    return fail(MISPLACED);
            }
        }

        /** The line's word is taken, if there may be one more of what it tells. */
        private boolean oneMore(int told, int most) {
            if (told >= most) {
                return fail(TOO_MUCH);
            }
            tokens.advance();
            return true;
        }

        private boolean isNew(int[] names, int count) {
            if (tokens.kind != Tokens.NAME) {
                return fail(MISPLACED);
            }
            found = tokens.value;
            return numberOf(found, names, count) == NONE || fail(TOLD);
        }

        private boolean isTold(int[] names, int count) {
            if (tokens.kind != Tokens.NAME) {
                return fail(MISPLACED);
            }
            found = numberOf(tokens.value, names, count);
            return found != NONE || fail(UNTOLD);
        }

        private boolean isToldHouse() {
            return isTold(town.houseNames, town.houses);
        }

        private boolean takeHouse() {
            if (!isToldHouse()) {
                return false;
            }
            tokens.advance();
            return true;
        }

        private boolean takeNumber(int least, int most) {
            if (tokens.kind != Tokens.NUMBER) {
                return fail(MISPLACED);
            }
            found = tokens.value;
            if (found < least || found > most) {
                return fail(TOO_MUCH);
            }
            tokens.advance();
            return true;
        }

        private boolean readHouse() {
            if (!oneMore(town.houses, HOUSES) || !isNew(town.houseNames, town.houses)) {
                return false;
            }
            town.houseNames[town.houses] = found;
            town.houses++;
            tokens.advance();
            return true;
        }

        private boolean readStreet() {
            if (!oneMore(town.streets, STREETS) || !takeHouse()) {
                return false;
            }
            int one = found;
            if (!isToldHouse()) {
                return false;
            }
            int other = found;
            if (one == other) {
                return fail(LOOP);
            }
            if (town.ways[one * HOUSES + other] > 0) {
                return fail(TOLD);
            }
            tokens.advance();
            if (!takeNumber(1, 9)) {
                return false;
            }
            town.addStreet(one, other, found);
            return true;
        }

        private boolean readSleeper() {
            int sleeper = town.sleepers;
            if (!oneMore(sleeper, SLEEPERS) || !isNew(town.sleeperNames, sleeper)) {
                return false;
            }
            town.sleeperNames[sleeper] = found;
            tokens.advance();
            if (!takeHouse()) {
                return false;
            }
            town.bed[sleeper] = found;
            if (!takeNumber(0, 9)) {
                return false;
            }
            town.deep[sleeper] = found;
            if (!takeHouse()) {
                return false;
            }
            town.dream[sleeper] = found;
            town.sleepers++;
            return true;
        }

        private boolean readLetter() {
            if (!oneMore(town.letters, LETTERS) || !isTold(town.sleeperNames, town.sleepers)) {
                return false;
            }
            int sleeper = found;
            tokens.advance();
            if (!takeHouse()) {
                return false;
            }
            town.addLetter(sleeper, found);
            return true;
        }

        private boolean readLamp() {
            if (!oneMore(town.lamps, LAMPS) || !takeHouse()) {
                return false;
            }
            int house = found;
            if (!takeNumber(0, HOURS - 1)) {
                return false;
            }
            int from = found;
            if (!takeNumber(from, HOURS - 1)) {
                return false;
            }
            town.lampHours[house] |= (1 << found + 1) - (1 << from);
            town.lamps++;
            return true;
        }

        /** A bell or a corner: how LOUD a HOUSE has it, each HOUSE once. */
        private boolean readLoud(int[] louds) {
            tokens.advance();
            if (!isToldHouse()) {
                return false;
            }
            int house = found;
            if (louds[house] > 0) {
                return fail(TOLD);
            }
            tokens.advance();
            if (!takeNumber(1, 9)) {
                return false;
            }
            louds[house] = found;
            return true;
        }

        private boolean readCat() {
            tokens.advance();
            if (!isToldHouse()) {
                return false;
            }
            if ((town.cats >> found & 1) != 0) {
                return fail(TOLD);
            }
            town.cats |= 1 << found;
            tokens.advance();
            return true;
        }

        private boolean readSeed() {
            if (seeded) {
                return fail(TOLD);
            }
            seeded = true;
            tokens.advance();
            if (!takeNumber(0, 99999)) {
                return false;
            }
            town.seed = found;
            return true;
        }

        private boolean readLaw() {
            tokens.advance();
            if (tokens.kind < Tokens.PULL || tokens.kind > Tokens.DROP) {
                return fail(MISPLACED);
            }
            int rule = tokens.kind - Tokens.PULL;
            if (town.laws.has(rule)) {
                return fail(TOLD);
            }
            tokens.advance();
            int wrong = expression.read(town.laws, rule);
            return wrong == 0 || fail(wrong);
        }
    }

    /** What changes with the HOURS and by call: where all are, what lies where. Rows of LETTERS are bits. */
    private static final class World {
        int hour;
        int night;
        int random;
        int woken;
        int arrived;
        int lit;
        final int[] at = new int[SLEEPERS];
        final int[] hand = new int[SLEEPERS];
        final int[] lies = new int[HOUSES];
        final int[] had = new int[LETTERS];
        final int[] bells = new int[HOUSES];

        void begin(Town town) {
            hour = 0;
            night = 0;
            random = town.seed;
            woken = 0;
            arrived = 0;
            lit = 0;
            System.arraycopy(town.bed, 0, at, 0, SLEEPERS);
            System.arraycopy(town.bells, 0, bells, 0, HOUSES);
            Arrays.fill(hand, 0);
            Arrays.fill(lies, 0);
            Arrays.fill(had, NONE);
            for (int letter = 0; letter < town.letters; letter++) {
                lies[town.bed[town.laidBy[letter]]] |= 1 << letter;
            }
        }

        void become(World other) {
            hour = other.hour;
            night = other.night;
            random = other.random;
            woken = other.woken;
            arrived = other.arrived;
            lit = other.lit;
            System.arraycopy(other.at, 0, at, 0, SLEEPERS);
            System.arraycopy(other.hand, 0, hand, 0, SLEEPERS);
            System.arraycopy(other.lies, 0, lies, 0, HOUSES);
            System.arraycopy(other.had, 0, had, 0, LETTERS);
            System.arraycopy(other.bells, 0, bells, 0, HOUSES);
        }

        boolean hasArrived(int letter) {
            return (arrived >> letter & 1) != 0;
        }

        int holder(int letter) {
            return rowWith(hand, letter);
        }

        int lyingIn(int letter) {
            return rowWith(lies, letter);
        }

        private static int rowWith(int[] rows, int letter) {
            for (int i = 0; i < rows.length; i++) {
                if ((rows[i] >> letter & 1) != 0) {
                    return i;
                }
            }
            return NONE;
        }

        int lettersInHand() {
            int letters = 0;
            for (int i = 0; i < SLEEPERS; i++) {
                letters += Integer.bitCount(hand[i]);
            }
            return letters;
        }

        void shift(int letter, int from, int to) {
            if (from != NONE) {
                lies[from] &= ~(1 << letter);
            }
            lies[to] |= 1 << letter;
        }

        void take(int sleeper, int bed) {
            if (at[sleeper] != bed) {
                return;
            }
            int taken = lies[bed];
            lies[bed] = 0;
            hand[sleeper] |= taken;
            for (int letter = 0; letter < LETTERS && taken >> letter != 0; letter++) {
                if ((taken >> letter & 1) != 0) {
                    had[letter] = sleeper;
                }
            }
        }

        void handOver(int sleeper, int mailForHouse) {
            arrived |= hand[sleeper] & mailForHouse;
            hand[sleeper] &= ~mailForHouse;
        }

        void putDown(int sleeper) {
            lies[at[sleeper]] |= hand[sleeper];
            hand[sleeper] = 0;
        }

        void passHour(Town town) {
            if (hour + 1 < HOURS) {
                hour++;
            } else {
                endNight(town);
            }
        }

        void endNight(Town town) {
            for (int sleeper = 0; sleeper < town.sleepers; sleeper++) {
                putDown(sleeper);
                at[sleeper] = town.bed[sleeper];
            }
            woken = 0;
            hour = 0;
            night++;
        }

        int draw() {
            random = (int) (random * 1103515245L + 12345L & 0x7fffffffL);
            return random / 65536;
        }
    }

    /** Works out the laws. A value hangs on the NAMES alone, so the latest ones are kept for the next time. */
    private static final class Reckoner {
        private static final long MOST = 1000000000000L;
        private static final int SLOT_BITS = 9;
        private static final int SPREAD = 0x9E3779B1;
        /** No key: there is no fourth law. */
        private static final int EMPTY = -1;

        private final int[] keys = new int[1 << SLOT_BITS];
        private final long[] values = new long[1 << SLOT_BITS];
        private final long[] stack = new long[Laws.MOST_KNOTS];

        void forget() {
            Arrays.fill(keys, EMPTY);
        }

        /** ERROR without such a law, too. */
        long value(Laws laws, int rule, int names) {
            if (!laws.has(rule)) {
                return ERROR;
            }
            int key = (names & laws.used[rule]) | (rule << Laws.RULE_SHIFT);
            int slot = (key * SPREAD) >>> (32 - SLOT_BITS);
            if (keys[slot] != key) {
                keys[slot] = key;
                values[slot] = workOut(laws, rule, names);
            }
            return values[slot];
        }

        private long workOut(Laws laws, int rule, int names) {
            int depth = 0;
            for (int i = laws.start[rule]; i < laws.end[rule]; i++) {
                int knot = laws.row[i];
                int kind = knot - Laws.FIRST_KIND;
                int name = kind - Tokens.DEEP;
                if (kind == Tokens.NOT && depth > 0) {
                    stack[depth - 1] = stack[depth - 1] == 0 ? 1 : 0;
                } else if ((kind < 0 || Laws.isName(name)) && depth < stack.length) {
                    stack[depth] = kind < 0 ? knot : Laws.nameIn(names, name);
                    depth++;
                } else if (depth > 1) {
                    depth--;
                    stack[depth - 1] = joined(kind, stack[depth - 1], stack[depth]);
                    if (stack[depth - 1] == ERROR) {
                        return ERROR;
                    }
                }
            }
            return depth > 0 ? stack[0] : ERROR;
        }

        private static long joined(int kind, long left, long right) {
            switch (kind) {
                case Tokens.OR:
                    return left != 0 || right != 0 ? 1 : 0;
                case Tokens.AND:
                    return left != 0 && right != 0 ? 1 : 0;
                case Tokens.LESS:
                    return left < right ? 1 : 0;
                case Tokens.NOT_MORE:
                    return left <= right ? 1 : 0;
                case Tokens.SAME:
                    return left == right ? 1 : 0;
                case Tokens.UNLIKE:
                    return left != right ? 1 : 0;
                case Tokens.NOT_LESS:
                    return left >= right ? 1 : 0;
                case Tokens.MORE:
                    return left > right ? 1 : 0;
                case Tokens.PLUS:
                    return Math.abs(left + right) > MOST ? ERROR : left + right;
                case Tokens.MINUS:
                    return Math.abs(left - right) > MOST ? ERROR : left - right;
                case Tokens.TIMES:
                    // Beyond this the product might not even fit a long.
                    return left != 0 && Math.abs(right) > MOST / Math.abs(left) ? ERROR : left * right;
                default:
                    return right == 0 ? ERROR : left / right;
            }
        }
    }

    /** How a world goes on: what holds in a NIGHT, as it is or tried otherwise, and the HOURS. */
    private static final class Night {
        private final Reckoner reckoner = new Reckoner();
        private Town town;
        private int[] ways;
        private int[] far;
        private final int[] otherWays = new int[HOUSES * HOUSES];
        private final int[] otherFar = new int[HOUSES * HOUSES];
        private final int[] path = new int[HOURS * SLEEPERS];
        final int[] noise = new int[HOUSES];
        final int[] deep = new int[SLEEPERS];
        final int[] dream = new int[SLEEPERS];
        int walkers;
        boolean dark;
        boolean byNumbers;

        Night(Town town) {
            this.town = town;
            ways = town.ways;
            far = town.far;
        }

        void forget() {
            reckoner.forget();
        }

        /** All is as the TEXT and the calls have it, and it goes without numbers. */
        void suit(Town newTown, World world) {
            town = newTown;
            ways = town.ways;
            far = town.far;
            System.arraycopy(town.deep, 0, deep, 0, SLEEPERS);
            System.arraycopy(town.dream, 0, dream, 0, SLEEPERS);
            for (int house = 0; house < HOUSES; house++) {
                noise[house] = world.bells[house] + town.singers[house] + (town.cats >> house & 1) * CAT_NOISE;
            }
            walkers = town.allSleepers();
            dark = false;
            byNumbers = false;
        }

        void closeStreet(int street) {
            System.arraycopy(town.ways, 0, otherWays, 0, otherWays.length);
            Town.join(otherWays, town.streetEnds[street], 0);
            Town.measure(otherWays, otherFar);
            ways = otherWays;
            far = otherFar;
        }

        int light(World world, int house, int hour) {
            return dark ? 0 : (town.lampHours[house] >> hour | world.lit >> house) & 1;
        }

        int names(World world, int sleeper, int house, int way) {
            return light(world, house, world.hour) << Laws.LIGHT_SHIFT
                | far[house * HOUSES + dream[sleeper]] << Laws.FAR_SHIFT
                | noise[house] << Laws.NOISE_SHIFT
                | deep[sleeper] << Laws.DEEP_SHIFT
                | Integer.bitCount(world.hand[sleeper]) << Laws.MAIL_SHIFT
                | world.hour << Laws.HOUR_SHIFT
                | way;
        }

        long worth(int rule, int names) {
            return reckoner.value(town.laws, rule, names);
        }

        int stood(int sleeper, int hour) {
            return path[hour * SLEEPERS + sleeper];
        }

        /** On from the world's HOUR to the end of a last one, short of what comes behind that. */
        void walkTo(World world, int lastHour) {
            for (int hour = world.hour; hour <= lastHour && hour < HOURS; hour++) {
                world.hour = hour;
                for (int sleeper = 0; sleeper < town.sleepers; sleeper++) {
                    if (((walkers & ~world.woken) >> sleeper & 1) != 0) {
                        world.take(sleeper, town.bed[sleeper]);
                        world.at[sleeper] = choose(world, sleeper);
                        arrive(world, sleeper);
                    }
                    path[hour * SLEEPERS + sleeper] = world.at[sleeper];
                }
            }
        }

        private int choose(World world, int sleeper) {
            int here = world.at[sleeper];
            int best = here;
            long most = Long.MIN_VALUE;
            for (int house = 0; house < town.houses; house++) {
                int way = ways[here * HOUSES + house];
                if (way == 0 && house != here) {
                    continue;
                }
                long pull = reckoner.value(town.laws, Laws.PULL, names(world, sleeper, house, way));
                if (pull == ERROR) {
                    pull = 100 - far[house * HOUSES + dream[sleeper]];
                }
                if (pull > most || pull == most && house == here) {
                    most = pull;
                    best = house;
                }
            }
            return best;
        }

        private void arrive(World world, int sleeper) {
            int house = world.at[sleeper];
            world.handOver(sleeper, town.mailFor[house]);
            int names = names(world, sleeper, house, 0);
            if (reckoner.value(town.laws, Laws.DROP, names) > 0) {
                world.putDown(sleeper);
            } else if (wakes(world, sleeper, reckoner.value(town.laws, Laws.WAKE, names))) {
                world.woken |= 1 << sleeper;
                world.putDown(sleeper);
            }
        }

        private boolean wakes(World world, int sleeper, long wake) {
            if (wake == ERROR) {
                return noise[world.at[sleeper]] > deep[sleeper];
            }
            if (!byNumbers) {
                return wake >= 50;
            }
            return wake >= 100 || wake > 0 && world.draw() % 100 < wake;
        }
    }

    /** What was seen of the first NIGHT, and what of it was struck. */
    private static final class Sights {
        static final int ALL = -1;

        int size;
        int knownBy;
        private final int[] hour = new int[SIGHTS];
        private final int[] sleeper = new int[SIGHTS];
        private final int[] house = new int[SIGHTS];
        private final int[] strikes = new int[SIGHTS];

        void clear() {
            size = 0;
            knownBy = ALL;
        }

        int add(int newHour, int newSleeper, int newHouse) {
            if (size >= SIGHTS) {
                return NONE;
            }
            hour[size] = newHour;
            sleeper[size] = newSleeper;
            house[size] = newHouse;
            strikes[size] = NONE;
            size++;
            return size - 1;
        }

        int addStrike(int sight) {
            int number = add(0, NONE, NONE);
            if (number != NONE) {
                strikes[number] = sight;
            }
            return number;
        }

        int knownCount() {
            return knownBy == ALL ? size : knownBy;
        }

        /** The KNOWN ones as bits, STRIKES among them. */
        int standing() {
            int struck = 0;
            for (int i = knownCount() - 1; i >= 0; i--) {
                if (strikes[i] != NONE && (struck >> i & 1) == 0) {
                    struck |= 1 << strikes[i];
                }
            }
            return (1 << knownCount()) - 1 & ~struck;
        }

        boolean fit(Night night, int ofSleeper, int standing) {
            for (int i = 0; i < size; i++) {
                boolean counts = (standing >> i & 1) != 0 && sleeper[i] == ofSleeper;
                if (counts && night.stood(ofSleeper, hour[i]) != house[i]) {
                    return false;
                }
            }
            return true;
        }
    }

    /** The latest changes by call, for undo. */
    private static final class Changes {
        static final int LAID = 0;
        static final int LIT = 1;
        static final int RUNG = 2;

        int size;
        final int[] kind = new int[CHANGES];
        final int[] which = new int[CHANGES];
        final int[] before = new int[CHANGES];

        void add(int newKind, int newWhich, int newBefore) {
            if (size >= CHANGES) {
                System.arraycopy(kind, 1, kind, 0, CHANGES - 1);
                System.arraycopy(which, 1, which, 0, CHANGES - 1);
                System.arraycopy(before, 1, before, 0, CHANGES - 1);
                size = CHANGES - 1;
            }
            kind[size] = newKind;
            which[size] = newWhich;
            before[size] = newBefore;
            size++;
        }
    }

    /** Questions that are answered by letting a copy of the world go on. */
    private static final class Tries {
        private static final int MOST_MATCHED = 4;
        private static final int MOST_NIGHTS = 40;
        private static final int TIMES_DRAWN = 10;

        private final World now;
        private final World trial = new World();
        private final Night night;
        private final Sights sights;
        private final int[] matched = new int[MOST_MATCHED];
        private final int[] dreamtPlaces = new int[HOURS];
        private final int[] firstHas = new int[HOUSES * HOUSES];
        private final int[] secondHas = new int[HOUSES * HOUSES];
        final int[] restHouses = new int[HOUSES * HOUSES];
        int rests;

        Tries(World now, Night night, Sights sights) {
            this.now = now;
            this.night = night;
            this.sights = sights;
        }

        void goTonight(Town town) {
            night.suit(town, now);
            trial.become(now);
            night.walkTo(trial, HOURS - 1);
        }

        /** The SLEEPER of a lying LETTER by MATCH. */
        int carrier(Town town, int letter) {
            int lying = 0;
            int asked = 0;
            int ways = 1;
            for (int i = 0; i < town.letters; i++) {
                if (now.lyingIn(i) == NONE) {
                    continue;
                }
                if (lying >= MOST_MATCHED) {
                    return TOO_MANY_LIE;
                }
                asked = i == letter ? lying : asked;
                matched[lying] = i;
                lying++;
                ways *= town.sleepers;
            }
            night.suit(town, now);
            for (int way = 0; way < ways; way++) {
                if (allArrive(town, lying, way)) {
                    return sleeperOf(town, way, lying - 1 - asked);
                }
            }
            return NOT_SO;
        }

        /** A way to lay the LETTERS is a number with a SLEEPER a digit, the first LETTER's highest. */
        private static int sleeperOf(Town town, int way, int digit) {
            int rest = way;
            for (int i = 0; i < digit && town.sleepers > 0; i++) {
                rest /= town.sleepers;
            }
            return town.sleepers > 0 ? rest % town.sleepers : NONE;
        }

        private boolean allArrive(Town town, int lying, int way) {
            trial.become(now);
            Arrays.fill(trial.lies, 0);
            int due = 0;
            for (int i = 0; i < lying; i++) {
                int sleeper = sleeperOf(town, way, lying - 1 - i);
                if (sleeper != NONE) {
                    trial.lies[town.bed[sleeper]] |= 1 << matched[i];
                }
                due |= 1 << matched[i];
            }
            night.walkTo(trial, HOURS - 1);
            return (due & ~trial.arrived) == 0;
        }

        int fewestLamps(Town town, int sleeper, int house, int hour) {
            night.suit(town, now);
            // Where no law asks for light, lamps change nothing.
            int most = town.laws.usesLight() ? town.houses : 0;
            for (int lamps = 0; lamps <= most; lamps++) {
                for (int lit = 0; lit <= town.allHouses(); lit++) {
                    if (Integer.bitCount(lit) != lamps || (lit & now.lit) != 0) {
                        continue;
                    }
                    trial.become(now);
                    trial.lit |= lit;
                    night.walkTo(trial, hour);
                    if (night.stood(sleeper, hour) == house) {
                        return lit;
                    }
                }
            }
            return NOT_SO;
        }

        int nightOfArrival(Town town, int letter) {
            night.suit(town, now);
            trial.become(now);
            for (int nights = 1; nights <= MOST_NIGHTS; nights++) {
                night.walkTo(trial, HOURS - 1);
                if (trial.hasArrived(letter)) {
                    return nights;
                }
                trial.endNight(town);
            }
            return NOT_SO;
        }

        /** DREAMT; the HOUSES where these have the SLEEPER stand are noted by HOURS. */
        int dreams(Town town, int sleeper) {
            Arrays.fill(dreamtPlaces, 0);
            int standing = sights.standing();
            int dreams = 0;
            for (int dream = 0; dream < town.houses; dream++) {
                trial.begin(town);
                night.suit(town, trial);
                night.dream[sleeper] = dream;
                night.walkTo(trial, HOURS - 1);
                if (!sights.fit(night, sleeper, standing)) {
                    continue;
                }
                dreams |= 1 << dream;
                for (int hour = 0; hour < HOURS; hour++) {
                    dreamtPlaces[hour] |= 1 << night.stood(sleeper, hour);
                }
            }
            return dreams;
        }

        int tellingHour() {
            int best = 0;
            for (int hour = 1; hour < HOURS; hour++) {
                if (unlikeHouses(hour) > unlikeHouses(best)) {
                    best = hour;
                }
            }
            return best;
        }

        int unlikeHouses(int hour) {
            return Integer.bitCount(dreamtPlaces[hour]);
        }

        /** The RESTS of CORNERS, each as ten times the first one's HOUSE and the second one's. */
        void findRests(Town town, int one, int other) {
            sing(town, one, other);
            rests = 0;
            for (int first = 0; first < town.houses; first++) {
                for (int second = 0; second < town.houses; second++) {
                    if (isRest(town, first, second) && rests < restHouses.length) {
                        restHouses[rests] = 10 * first + second;
                        rests++;
                    }
                }
            }
        }

        /** What the two SINGERS have, by the first one's, then the second one's HOUSE. */
        private void sing(Town town, int one, int other) {
            night.suit(town, now);
            for (int first = 0; first < town.houses; first++) {
                for (int second = 0; second < town.houses; second++) {
                    night.noise[first] += one;
                    night.noise[second] += other;
                    trial.become(now);
                    night.walkTo(trial, HOURS - 1);
                    night.noise[first] -= one;
                    night.noise[second] -= other;
                    int share = first == second ? 2 : 1;
                    firstHas[first * HOUSES + second] = listeners(town, first) / share;
                    secondHas[first * HOUSES + second] = listeners(town, second) / share;
                }
            }
        }

        private int listeners(Town town, int house) {
            int listeners = 0;
            for (int sleeper = 0; sleeper < town.sleepers; sleeper++) {
                listeners += trial.at[sleeper] == house ? 1 : 0;
            }
            return listeners;
        }

        private boolean isRest(Town town, int first, int second) {
            int here = first * HOUSES + second;
            for (int house = 0; house < town.houses; house++) {
                if (firstHas[house * HOUSES + second] > firstHas[here]
                    || secondHas[first * HOUSES + house] > secondHas[here]) {
                    return false;
                }
            }
            return true;
        }

        int arrivals(Town town, int walkers) {
            night.suit(town, now);
            night.walkers = walkers;
            trial.become(now);
            night.walkTo(trial, HOURS - 1);
            return Integer.bitCount(trial.arrived);
        }

        int fewestWalkers(Town town) {
            int all = town.allSleepers();
            int due = arrivals(town, all);
            for (int count = 0; count < town.sleepers; count++) {
                for (int walkers = 0; walkers < all; walkers++) {
                    if (Integer.bitCount(walkers) == count && arrivals(town, walkers) >= due) {
                        return walkers;
                    }
                }
            }
            return all;
        }

        int luckyTimes(Town town, int seed, int letter, int nights) {
            int lucky = 0;
            trial.random = seed;
            for (int time = 0; time < TIMES_DRAWN; time++) {
                int random = trial.random;
                trial.become(now);
                trial.random = random;
                for (int i = 0; i < nights; i++) {
                    deal(town);
                    night.walkTo(trial, HOURS - 1);
                    trial.endNight(town);
                }
                lucky += trial.hasArrived(letter) ? 1 : 0;
            }
            return lucky;
        }

        /** A NIGHT by chance: what the one ahead had is over. */
        private void deal(Town town) {
            night.suit(town, now);
            night.byNumbers = true;
            trial.lit = now.lit;
            if (trial.hour > 0 || town.houses == 0) {
                return;
            }
            int dealt = trial.draw() % 3;
            if (dealt == 0) {
                trial.lit = town.allHouses();
            } else if (dealt == 1) {
                night.noise[trial.draw() % town.houses] += CAT_NOISE;
            }
        }

        int otherwise(Town town, int what, int which) {
            night.suit(town, now);
            trial.become(now);
            for (int house = 0; house < HOUSES; house++) {
                int cat = (town.cats >> house & 1) * CAT_NOISE;
                int quiet = what == 1 ? cat : what == 2 ? now.bells[house] : what == 3 ? town.singers[house] : 0;
                night.noise[house] -= quiet;
            }
            night.dark = what == 4;
            if (what == 5) {
                trial.lit = town.allHouses();
            } else if (what == 6) {
                night.deep[which] = 9;
            } else if (what == 7) {
                night.closeStreet(which);
            }
            night.walkTo(trial, HOURS - 1);
            return Integer.bitCount(trial.arrived);
        }
    }
}
