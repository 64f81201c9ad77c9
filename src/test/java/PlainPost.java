import java.math.BigInteger;
import java.util.ArrayList;
import java.util.Arrays;
import java.util.HashSet;
import java.util.List;
import java.util.NoSuchElementException;
import java.util.Set;
import java.util.TreeSet;

/**
 * The document once more, written as slowly and plainly as it can be, with the library: the tests
 * let it answer the same calls as SleepPost and compare. It shares no code with SleepPost.
 */
final class PlainPost {
    private static final Set<String> LANGUAGE = new HashSet<>(Arrays.asList(
        "house street sleeper letter lamp bell cat corner seed law pull wake drop or and not deep far light noise mail hour way"
            .split(" ")));
    private static final List<String> NAMES = Arrays.asList("deep", "far", "light", "noise", "mail", "hour", "way");
    private static final BigInteger MOST = BigInteger.TEN.pow(12);

    // ---- what a text tells ----

    static final class Street { int a, b, length; }
    static final class Sleeper { String name; int bed, deep, dream; }
    static final class Letter { int sleeper, house; }
    static final class Lamp { int house, from, to; }

    static final class Text {
        final List<String> houses = new ArrayList<>();
        final List<Street> streets = new ArrayList<>();
        final List<Sleeper> sleepers = new ArrayList<>();
        final List<Letter> letters = new ArrayList<>();
        final List<Lamp> lamps = new ArrayList<>();
        final Integer[] bell = new Integer[8];
        final boolean[] cat = new boolean[8];
        final Integer[] corner = new Integer[8];
        Integer seed;
        final Node[] laws = new Node[3];
        int knots;
        int lines;
    }

    static final class Node {
        final String sign;
        final Node[] parts;

        Node(String sign, Node... parts) {
            this.sign = sign;
            this.parts = parts;
        }

        /** null: an ERROR. */
        BigInteger value(int[] names) {
            if (parts.length == 0) {
                int name = NAMES.indexOf(sign);
                return name >= 0 ? BigInteger.valueOf(names[name]) : new BigInteger(sign);
            }
            BigInteger l = parts[0].value(names);
            BigInteger r = parts.length > 1 ? parts[1].value(names) : BigInteger.ZERO;
            if (l == null || r == null) {
                return null;
            }
            BigInteger v = joined(l, r);
            return v == null || v.abs().compareTo(MOST) > 0 ? null : v;
        }

        private BigInteger joined(BigInteger l, BigInteger r) {
            int c = l.compareTo(r);
            switch (sign) {
                case "+": return l.add(r);
                case "-": return l.subtract(r);
                case "*": return l.multiply(r);
                case "/": return r.signum() == 0 ? null : l.divide(r);
                case "<": return bit(c < 0);
                case "<=": return bit(c <= 0);
                case "=": return bit(c == 0);
                case "<>": return bit(c != 0);
                case ">=": return bit(c >= 0);
                case ">": return bit(c > 0);
                case "and": return bit(l.signum() != 0 && r.signum() != 0);
                case "or": return bit(l.signum() != 0 || r.signum() != 0);
                case "not": return bit(l.signum() == 0);
                default: throw new AssertionError(sign);
            }
        }

        private static BigInteger bit(boolean is) {
            return is ? BigInteger.ONE : BigInteger.ZERO;
        }
    }

    // ---- reading ----

    private static final class Fault extends RuntimeException {
        final int fault, place;

        Fault(int fault, int place) {
            this.fault = fault;
            this.place = place;
        }
    }

    private static final class Token {
        final String text;
        final int place;

        Token(String text, int place) {
            this.text = text;
            this.place = place;
        }
    }

    private static final class Parser {
        final List<Token> tokens = new ArrayList<>();
        final int length;
        int i = 0;
        int open = 0;
        final Text t = new Text();

        Parser(String s) {
            length = s.length();
            int p = 0;
            while (p < s.length()) {
                char c = s.charAt(p);
                int q = p + 1;
                if (c == 10 || c == 32) {
                    p++;
                    continue;
                }
                if (c >= 'a' && c <= 'z') {
                    while (q < s.length() && s.charAt(q) >= 'a' && s.charAt(q) <= 'z') q++;
                } else if (c >= '0' && c <= '9') {
                    while (q < s.length() && s.charAt(q) >= '0' && s.charAt(q) <= '9') q++;
                } else if (s.startsWith("<=", p) || s.startsWith("<>", p) || s.startsWith(">=", p)) {
                    q = p + 2;
                }
                tokens.add(new Token(s.substring(p, q), p));
                p = q;
            }
            tokens.add(new Token("", length));
        }

        String peek() { return tokens.get(i).text; }
        int place() { return tokens.get(i).place; }
        void fail(int fault) { throw new Fault(fault, place()); }
        void check(boolean good, int fault) { if (!good) fail(fault); }
        boolean isName() { return peek().matches("[a-z]{1,6}") && !LANGUAGE.contains(peek()); }
        boolean isNumber() { return peek().matches("[0-9]+"); }

        Text text() {
            while (!peek().equals("")) {
                line();
                check(peek().equals(";"), 1);
                i++;
                t.lines++;
            }
            return t;
        }

        int house() {
            int h = toldHouse();
            i++;
            return h;
        }

        int toldHouse() {
            check(isName(), 1);
            check(t.houses.contains(peek()), 4);
            return t.houses.indexOf(peek());
        }

        int number(int least, int most) {
            check(isNumber(), 1);
            BigInteger n = new BigInteger(peek());
            check(n.compareTo(BigInteger.valueOf(least)) >= 0 && n.compareTo(BigInteger.valueOf(most)) <= 0, 2);
            i++;
            return n.intValue();
        }

        void line() {
            switch (peek()) {
                case "house":
                    check(t.houses.size() < 8, 2);
                    i++;
                    check(isName(), 1);
                    check(!t.houses.contains(peek()), 3);
                    t.houses.add(peek());
                    i++;
                    break;
                case "street":
                    street();
                    break;
                case "sleeper":
                    sleeper();
                    break;
                case "letter":
                    letter();
                    break;
                case "lamp":
                    check(t.lamps.size() < 6, 2);
                    i++;
                    Lamp lamp = new Lamp();
                    lamp.house = house();
                    lamp.from = number(0, 11);
                    lamp.to = number(lamp.from, 11);
                    t.lamps.add(lamp);
                    break;
                case "bell":
                    loud(t.bell);
                    break;
                case "corner":
                    loud(t.corner);
                    break;
                case "cat":
                    i++;
                    check(!t.cat[toldHouse()], 3);
                    t.cat[house()] = true;
                    break;
                case "seed":
                    check(t.seed == null, 3);
                    i++;
                    t.seed = number(0, 99999);
                    break;
                case "law":
                    i++;
                    int rule = Arrays.asList("pull", "wake", "drop").indexOf(peek());
                    check(rule >= 0, 1);
                    check(t.laws[rule] == null, 3);
                    i++;
                    open = 0;
                    t.laws[rule] = or();
                    break;
                default:
                    fail(1);
            }
        }

        void loud(Integer[] of) {
            i++;
            int h = toldHouse();
            check(of[h] == null, 3);
            i++;
            of[h] = number(1, 9);
        }

        void street() {
            check(t.streets.size() < 12, 2);
            i++;
            Street s = new Street();
            s.a = house();
            s.b = toldHouse();
            for (Street o : t.streets) {
                check(!(o.a == s.a && o.b == s.b || o.a == s.b && o.b == s.a), 3);
            }
            check(s.a != s.b, 5);
            i++;
            s.length = number(1, 9);
            t.streets.add(s);
        }

        int sleeperNamed(String name) {
            for (int k = 0; k < t.sleepers.size(); k++) {
                if (t.sleepers.get(k).name.equals(name)) return k;
            }
            return -1;
        }

        void sleeper() {
            check(t.sleepers.size() < 5, 2);
            i++;
            check(isName(), 1);
            check(sleeperNamed(peek()) < 0, 3);
            Sleeper s = new Sleeper();
            s.name = peek();
            i++;
            s.bed = house();
            s.deep = number(0, 9);
            s.dream = house();
            t.sleepers.add(s);
        }

        void letter() {
            check(t.letters.size() < 8, 2);
            i++;
            check(isName(), 1);
            check(sleeperNamed(peek()) >= 0, 4);
            Letter l = new Letter();
            l.sleeper = sleeperNamed(peek());
            i++;
            l.house = house();
            t.letters.add(l);
        }

        void knot() {
            check(t.knots < 64, 2);
            t.knots++;
        }

        Node or() {
            Node n = and();
            while (peek().equals("or")) {
                knot();
                i++;
                n = new Node("or", n, and());
            }
            return n;
        }

        Node and() {
            Node n = not();
            while (peek().equals("and")) {
                knot();
                i++;
                n = new Node("and", n, not());
            }
            return n;
        }

        Node not() {
            if (peek().equals("not")) {
                knot();
                i++;
                return new Node("not", not());
            }
            Node n = sum();
            String s = peek();
            if (Arrays.asList("<", "<=", "=", "<>", ">=", ">").contains(s)) {
                knot();
                i++;
                n = new Node(s, n, sum());
            }
            return n;
        }

        Node sum() {
            Node n = product();
            while (peek().equals("+") || peek().equals("-")) {
                knot();
                String s = peek();
                i++;
                n = new Node(s, n, product());
            }
            return n;
        }

        Node product() {
            Node n = part();
            while (peek().equals("*") || peek().equals("/")) {
                knot();
                String s = peek();
                i++;
                n = new Node(s, n, part());
            }
            return n;
        }

        Node part() {
            if (peek().equals("(")) {
                check(open < 8, 2);
                open++;
                i++;
                Node n = or();
                check(peek().equals(")"), 1);
                open--;
                i++;
                return n;
            }
            check(isNumber() || NAMES.contains(peek()), 1);
            if (isNumber()) {
                check(new BigInteger(peek()).compareTo(BigInteger.valueOf(9999)) <= 0, 2);
            }
            knot();
            i++;
            return new Node(tokens.get(i - 1).text);
        }
    }

    // ---- what changes ----

    static final class World {
        int hour, night;
        BigInteger random;
        int[] at, place, state, had, bell;
        boolean[] woken, lit;

        World copy() {
            World w = new World();
            w.hour = hour;
            w.night = night;
            w.random = random;
            w.at = at.clone();
            w.place = place.clone();
            w.state = state.clone();
            w.had = had.clone();
            w.bell = bell.clone();
            w.woken = woken.clone();
            w.lit = lit.clone();
            return w;
        }

        int number() {
            random = random.multiply(BigInteger.valueOf(1103515245)).add(BigInteger.valueOf(12345)).mod(BigInteger.TWO.pow(31));
            return random.divide(BigInteger.valueOf(65536)).intValue();
        }

        int arrivals() {
            return (int) Arrays.stream(state).filter(s -> s == 2).count();
        }
    }

    /** What is otherwise than told, for a while. */
    static final class Rules {
        boolean noCats, noBells, noSingers, dark, allLit, numbers;
        int[] more = new int[8];
        int[] deep, dream;
        int noStreet = -1;
        int still = 0;
    }

    private final List<Integer> tape = new ArrayList<>();
    private int fault = 0;
    private int faultPlace = -1;
    private Text t = new Text();
    private World now;
    private World image;
    private final List<int[]> sights = new ArrayList<>();
    private int knownBy = -1;
    private final List<World> undo = new ArrayList<>();

    PlainPost() {
        start();
    }

    private World told() {
        World w = new World();
        int n = t.sleepers.size();
        int m = t.letters.size();
        w.random = BigInteger.valueOf(t.seed == null ? 0 : t.seed);
        w.at = t.sleepers.stream().mapToInt(s -> s.bed).toArray();
        w.woken = new boolean[n];
        w.lit = new boolean[t.houses.size()];
        w.bell = new int[t.houses.size()];
        for (int h = 0; h < w.bell.length; h++) w.bell[h] = t.bell[h] == null ? 0 : t.bell[h];
        w.place = t.letters.stream().mapToInt(l -> t.sleepers.get(l.sleeper).bed).toArray();
        w.state = new int[m];
        w.had = new int[m];
        Arrays.fill(w.had, -1);
        return w;
    }

    private void start() {
        now = told();
        image = null;
        sights.clear();
        knownBy = -1;
        undo.clear();
    }

    private Rules rules() {
        Rules r = new Rules();
        r.deep = t.sleepers.stream().mapToInt(s -> s.deep).toArray();
        r.dream = t.sleepers.stream().mapToInt(s -> s.dream).toArray();
        return r;
    }

    private int street(Rules r, int a, int b) {
        for (int k = 0; k < t.streets.size(); k++) {
            Street s = t.streets.get(k);
            if (k != r.noStreet && (s.a == a && s.b == b || s.a == b && s.b == a)) return s.length;
        }
        return 0;
    }

    private int farWith(Rules r, int a, int b) {
        int n = t.houses.size();
        int[] d = new int[n];
        Arrays.fill(d, 99);
        d[a] = 0;
        for (int k = 0; k < n; k++) {
            for (int x = 0; x < n; x++) {
                for (int y = 0; y < n; y++) {
                    int l = street(r, x, y);
                    if (l > 0 && d[x] + l < d[y]) d[y] = d[x] + l;
                }
            }
        }
        return d[b];
    }

    private int light(Rules r, World w, int house, int hour) {
        if (r.dark) return 0;
        if (r.allLit || w.lit[house]) return 1;
        for (Lamp l : t.lamps) {
            if (l.house == house && l.from <= hour && hour <= l.to) return 1;
        }
        return 0;
    }

    private int noise(Rules r, World w, int house) {
        int n = r.more[house];
        if (!r.noBells) n += w.bell[house];
        if (!r.noSingers && t.corner[house] != null) n += t.corner[house];
        if (!r.noCats && t.cat[house]) n += 3;
        return n;
    }

    private BigInteger lawValue(Rules r, World w, int rule, int s, int house, int way) {
        if (t.laws[rule] == null) return null;
        int mail = 0;
        for (int l = 0; l < w.state.length; l++) {
            if (w.state[l] == 1 && w.place[l] == s) mail++;
        }
        return t.laws[rule].value(new int[] {r.deep[s], farWith(r, house, r.dream[s]), light(r, w, house, w.hour),
            noise(r, w, house), mail, w.hour, way});
    }

    private void leave(World w, int s) {
        for (int l = 0; l < w.state.length; l++) {
            if (w.state[l] == 1 && w.place[l] == s) {
                w.state[l] = 0;
                w.place[l] = w.at[s];
            }
        }
    }

    private BigInteger pull(Rules r, World w, int s, int house) {
        BigInteger v = lawValue(r, w, 0, s, house, street(r, w.at[s], house));
        return v != null ? v : BigInteger.valueOf(100 - farWith(r, house, r.dream[s]));
    }

    /** An HOUR, up to "then it is the next HOUR". */
    private void walk(Rules r, World w) {
        for (int s = 0; s < w.at.length; s++) {
            if (w.woken[s] || (r.still >> s & 1) != 0) continue;
            for (int l = 0; l < w.state.length; l++) {
                if (w.at[s] == t.sleepers.get(s).bed && w.state[l] == 0 && w.place[l] == w.at[s]) {
                    w.state[l] = 1;
                    w.place[l] = s;
                    w.had[l] = s;
                }
            }
            int to = w.at[s];
            for (int h = 0; h < t.houses.size(); h++) {
                if (street(r, w.at[s], h) > 0 && pull(r, w, s, h).compareTo(pull(r, w, s, to)) > 0) to = h;
            }
            w.at[s] = to;
            for (int l = 0; l < w.state.length; l++) {
                if (w.state[l] == 1 && w.place[l] == s && t.letters.get(l).house == to) {
                    w.state[l] = 2;
                    w.place[l] = to;
                }
            }
            BigInteger drop = lawValue(r, w, 2, s, to, 0);
            if (drop != null && drop.signum() > 0) {
                leave(w, s);
                continue;
            }
            BigInteger e = lawValue(r, w, 1, s, to, 0);
            int wake = e == null ? (noise(r, w, to) > r.deep[s] ? 100 : 0)
                : e.max(BigInteger.ZERO).min(BigInteger.valueOf(100)).intValue();
            boolean woken = wake == 100;
            if (wake > 0 && wake < 100) woken = r.numbers ? w.number() % 100 < wake : wake >= 50;
            if (woken) {
                leave(w, s);
                w.woken[s] = true;
            }
        }
    }

    private void next(World w) {
        w.hour++;
        if (w.hour < 12) return;
        for (int s = 0; s < w.at.length; s++) leave(w, s);
        w.at = t.sleepers.stream().mapToInt(s -> s.bed).toArray();
        Arrays.fill(w.woken, false);
        w.hour = 0;
        w.night++;
    }

    /** Where all stand behind each HOUR to 11; the world is then behind HOUR 11, but it is still that NIGHT. */
    private int[][] tonight(Rules r, World w) {
        int[][] stood = new int[12][];
        while (true) {
            walk(r, w);
            stood[w.hour] = w.at.clone();
            if (w.hour == 11) return stood;
            next(w);
        }
    }

    private int[][] tonight() {
        return tonight(rules(), now.copy());
    }

    // ---- the face ----

    private boolean house(int h) { return h >= 0 && h < t.houses.size(); }
    private boolean sleeper(int s) { return s >= 0 && s < t.sleepers.size(); }
    private boolean isLetter(int l) { return l >= 0 && l < t.letters.size(); }
    private boolean within(int x, int least, int most) { return x >= least && x <= most; }

    int feed(int a, int b, int c, int d, int e) {
        if (tape.size() + 20 > 700) return -1;
        for (int x : new int[] {a, b, c, d, e}) {
            tape.add(x >>> 24);
            tape.add(x >>> 16 & 255);
            tape.add(x >>> 8 & 255);
            tape.add(x & 255);
        }
        return tape.size();
    }

    int text(int n) {
        if (!within(n, 0, tape.size())) return -2;
        StringBuilder s = new StringBuilder();
        for (int i = 0; i < n; i++) s.append((char) (int) tape.get(i));
        tape.clear();
        fault = 0;
        faultPlace = -1;
        try {
            t = new Parser(s.toString()).text();
        } catch (Fault f) {
            fault = f.fault;
            faultPlace = f.place;
            return -1;
        }
        start();
        return t.lines;
    }

    int fault(int what) { return what == 0 ? fault : what == 1 ? faultPlace : -1; }

    int named(int what, int letters) {
        List<String> names = new ArrayList<>();
        if (what == 0) names = t.houses;
        if (what == 1) for (Sleeper s : t.sleepers) names.add(s.name);
        for (int i = 0; i < names.size(); i++) {
            long code = 0;
            for (int k = 0; k < 6; k++) code = code * 32 + (k < names.get(i).length() ? names.get(i).charAt(k) - 96 : 0);
            if (code == letters) return i;
        }
        return -1;
    }

    int look(int s, int what) {
        if (!sleeper(s)) throw new IndexOutOfBoundsException();
        Sleeper x = t.sleepers.get(s);
        switch (what) {
            case 0: return now.at[s];
            case 1: return x.bed;
            case 2: return x.dream;
            case 3: return x.deep;
            case 4: return now.woken[s] ? 1 : 0;
            case 5:
                int bits = 0;
                for (int l = 0; l < now.state.length; l++) if (now.state[l] == 1 && now.place[l] == s) bits |= 1 << l;
                return bits;
            default: throw new NoSuchElementException();
        }
    }

    int letter(int l, int what) {
        if (!isLetter(l)) return -1;
        return what == 0 ? t.letters.get(l).house : what == 1 ? now.place[l] : what == 2 ? now.state[l] : what == 3 ? now.had[l] : -1;
    }

    int far(int a, int b) { return house(a) && house(b) ? farWith(rules(), a, b) : -1; }

    int at(int h, int hour, int what) {
        if (!house(h) || !within(hour, 0, 11) || !within(what, 0, 1)) return -1;
        return what == 0 ? light(rules(), now, h, hour) : noise(rules(), now, h);
    }

    long law(int what, int s, int h) {
        if (!within(what, 0, 2) || !sleeper(s) || !house(h)) return Long.MIN_VALUE;
        BigInteger v = lawValue(rules(), now, what, s, h, what == 0 ? street(rules(), now.at[s], h) : 0);
        return v == null ? Long.MIN_VALUE : v.longValueExact();
    }

    private void before() {
        undo.add(now.copy());
        if (undo.size() > 20) undo.remove(0);
    }

    boolean lay(int l, int s) {
        if (!isLetter(l) || !sleeper(s) || now.state[l] != 0 || now.place[l] == t.sleepers.get(s).bed) return false;
        before();
        now.place[l] = t.sleepers.get(s).bed;
        return true;
    }

    boolean lit(int h, boolean is) {
        if (!house(h) || now.lit[h] == is) return false;
        before();
        now.lit[h] = is;
        return true;
    }

    boolean bell(int h, int loud) {
        if (!house(h) || !within(loud, 0, 9) || now.bell[h] == loud) return false;
        before();
        now.bell[h] = loud;
        return true;
    }

    int hours(int n) {
        if (!within(n, 0, 36) || now.night * 12 + now.hour + n >= 12000) return -1;
        Rules r = rules();
        r.numbers = true;
        for (int i = 0; i < n; i++) {
            undo.clear();
            walk(r, now);
            next(now);
        }
        return now.hour;
    }

    int where(int s, int hour) {
        return sleeper(s) && within(hour, now.hour, 11) ? tonight()[hour][s] : -1;
    }

    int match(int l) {
        if (!isLetter(l)) return -1;
        if (now.state[l] != 0) return -2;
        List<Integer> lying = new ArrayList<>();
        for (int k = 0; k < now.state.length; k++) if (now.state[k] == 0) lying.add(k);
        if (lying.size() > 4) return -3;
        int[] by = new int[lying.size()];
        return matched(lying, by, 0) ? by[lying.indexOf(l)] : -2;
    }

    private boolean matched(List<Integer> lying, int[] by, int k) {
        if (k < by.length) {
            for (by[k] = 0; by[k] < t.sleepers.size(); by[k]++) {
                if (matched(lying, by, k + 1)) return true;
            }
            return false;
        }
        World w = now.copy();
        for (int i = 0; i < by.length; i++) w.place[lying.get(i)] = t.sleepers.get(by[i]).bed;
        tonight(rules(), w);
        for (int l : lying) if (w.state[l] != 2) return false;
        return true;
    }

    int lead(int s, int h, int hour) {
        if (!sleeper(s) || !house(h) || !within(hour, now.hour, 11)) return -1;
        int best = -2;
        for (int bits = 0; bits < 1 << t.houses.size(); bits++) {
            World w = now.copy();
            for (int k = 0; k < w.lit.length; k++) w.lit[k] |= (bits >> k & 1) != 0;
            if (tonight(rules(), w)[hour][s] == h && (best < 0 || Integer.bitCount(bits) < Integer.bitCount(best))) best = bits;
        }
        return best;
    }

    int chain(int l) {
        if (!isLetter(l)) return -1;
        World w = now.copy();
        for (int night = 0; night <= 40; night++) {
            if (w.state[l] == 2) return night;
            tonight(rules(), w);
            if (w.state[l] != 2) next(w);
        }
        return -2;
    }

    int meet(int a, int b) {
        if (!sleeper(a) || !sleeper(b) || a == b) return -1;
        int bits = 0;
        int[][] stood = tonight();
        for (int k = now.hour; k < 12; k++) if (stood[k][a] == stood[k][b]) bits |= 1 << k;
        return bits;
    }

    int sight(int hour, int s, int h) {
        if (!within(hour, 0, 11) || !sleeper(s) || !house(h) || sights.size() == 24) return -1;
        sights.add(new int[] {hour, s, h});
        return sights.size() - 1;
    }

    int strike(int sight) {
        if (!within(sight, 0, sights.size() - 1) || sights.size() == 24) return -1;
        sights.add(new int[] {sight});
        return sights.size() - 1;
    }

    boolean known(int n) {
        if (!within(n, -1, sights.size())) return false;
        knownBy = n;
        return true;
    }

    private int knownCount() { return knownBy < 0 ? sights.size() : knownBy; }

    private boolean struck(int i) {
        for (int k = i + 1; k < knownCount(); k++) {
            if (sights.get(k).length == 1 && sights.get(k)[0] == i && !struck(k)) return true;
        }
        return false;
    }

    private List<int[][]> dreams(int s, List<Integer> houses) {
        List<int[][]> walks = new ArrayList<>();
        for (int h = 0; h < t.houses.size(); h++) {
            Rules r = rules();
            r.dream[s] = h;
            int[][] stood = tonight(r, told());
            boolean so = true;
            for (int i = 0; i < knownCount(); i++) {
                int[] x = sights.get(i);
                if (x.length == 3 && x[1] == s && !struck(i) && stood[x[0]][s] != x[2]) so = false;
            }
            if (so) {
                houses.add(h);
                walks.add(stood);
            }
        }
        return walks;
    }

    int dreamt(int s) {
        if (!sleeper(s)) return -1;
        List<Integer> houses = new ArrayList<>();
        dreams(s, houses);
        return houses.stream().mapToInt(h -> 1 << h).sum();
    }

    int tells(int s, int what) {
        if (!sleeper(s) || !within(what, 0, 1)) return -1;
        List<int[][]> walks = dreams(s, new ArrayList<>());
        if (walks.isEmpty()) return -2;
        int best = -1;
        int most = 0;
        for (int k = 0; k < 12; k++) {
            Set<Integer> unlike = new TreeSet<>();
            for (int[][] walk : walks) unlike.add(walk[k][s]);
            if (unlike.size() > most) {
                most = unlike.size();
                best = k;
            }
        }
        return what == 0 ? best : most;
    }

    private int[] has(int loud1, int loud2, int h1, int h2) {
        Rules r = rules();
        r.more[h1] += loud1;
        r.more[h2] += loud2;
        int[] at = tonight(r, now.copy())[11];
        int first = (int) Arrays.stream(at).filter(h -> h == h1).count();
        int second = (int) Arrays.stream(at).filter(h -> h == h2).count();
        return h1 == h2 ? new int[] {first / 2, second / 2} : new int[] {first, second};
    }

    private List<Integer> restsOf(int one, int other) {
        int n = t.houses.size();
        int[][][] has = new int[n][n][];
        for (int a = 0; a < n; a++) for (int b = 0; b < n; b++) has[a][b] = has(one, other, a, b);
        List<Integer> rests = new ArrayList<>();
        for (int a = 0; a < n; a++) {
            for (int b = 0; b < n; b++) {
                boolean rest = true;
                for (int c = 0; c < n; c++) {
                    if (has[c][b][0] > has[a][b][0] || has[a][c][1] > has[a][b][1]) rest = false;
                }
                if (rest) rests.add(10 * a + b);
            }
        }
        return rests;
    }

    int rests(int one, int other) {
        return within(one, 1, 9) && within(other, 1, 9) && !t.houses.isEmpty() ? restsOf(one, other).size() : -1;
    }

    int rest(int one, int other, int k) {
        if (!within(one, 1, 9) || !within(other, 1, 9) || t.houses.isEmpty() || k < 0) return -1;
        List<Integer> rests = restsOf(one, other);
        return k < rests.size() ? rests.get(k) : -2;
    }

    int brought(int h) {
        if (!house(h)) return -1;
        int bits = 0;
        int[][] stood = tonight();
        for (int k = now.hour; k < 12; k++) for (int s = 0; s < stood[k].length; s++) if (stood[k][s] == h) bits |= 1 << s;
        return bits;
    }

    private int arrivals(int still) {
        Rules r = rules();
        r.still = still;
        World w = now.copy();
        tonight(r, w);
        return w.arrivals();
    }

    int cost(int bits) {
        return within(bits, 0, (1 << t.sleepers.size()) - 1) ? Math.max(0, arrivals(0) - arrivals(bits)) : -1;
    }

    int need() {
        int all = (1 << t.sleepers.size()) - 1;
        int best = all;
        for (int bits = all; bits >= 0; bits--) {
            if (arrivals(all & ~bits) >= arrivals(0) && Integer.bitCount(bits) <= Integer.bitCount(best)) best = bits;
        }
        return best;
    }

    int chance(int seed, int l, int n) {
        if (seed < 0 || !isLetter(l) || !within(n, 1, 9)) return -1;
        int times = 0;
        BigInteger random = BigInteger.valueOf(seed);
        for (int k = 0; k < 10; k++) {
            World w = now.copy();
            w.random = random;
            for (int night = 0; night < n; night++) {
                Rules r = rules();
                r.numbers = true;
                if (w.hour == 0) {
                    int dealt = w.number() % 3;
                    if (dealt == 0) r.allLit = true;
                    if (dealt == 1) r.more[w.number() % t.houses.size()] += 3;
                }
                tonight(r, w);
                next(w);
            }
            random = w.random;
            if (w.state[l] == 2) times++;
        }
        return times;
    }

    int tried(int what, int i) {
        if (!within(what, 0, 7) || i < 0) return -1;
        if (i >= (what == 6 ? t.sleepers.size() : what == 7 ? t.streets.size() : 1)) return -1;
        Rules r = rules();
        r.noCats = what == 1;
        r.noBells = what == 2;
        r.noSingers = what == 3;
        r.dark = what == 4;
        r.allLit = what == 5;
        if (what == 6) r.deep[i] = 9;
        if (what == 7) r.noStreet = i;
        World w = now.copy();
        tonight(r, w);
        return w.arrivals();
    }

    int undo() {
        if (undo.isEmpty()) return -1;
        now = undo.remove(undo.size() - 1);
        return undo.size();
    }

    int keep() {
        image = now.copy();
        return now.night;
    }

    int back() {
        if (image == null) return -1;
        now = image.copy();
        undo.clear();
        return now.night;
    }

    int count(int what) {
        switch (what) {
            case 0: return t.houses.size();
            case 1: return t.streets.size();
            case 2: return t.sleepers.size();
            case 3: return t.letters.size();
            case 4: return t.lamps.size();
            case 5: return t.knots;
            case 6: return now.hour;
            case 7: return now.night;
            case 8: return now.arrivals();
            case 9: return (int) Arrays.stream(now.state).filter(s -> s == 1).count();
            case 10:
                int woken = 0;
                for (boolean w : now.woken) woken += w ? 1 : 0;
                return woken;
            case 11:
                int bits = 0;
                for (int h = 0; h < now.lit.length; h++) bits |= now.lit[h] ? 1 << h : 0;
                return bits;
            case 12: return sights.size();
            case 13: return knownCount();
            case 14: return undo.size();
            default: return -1;
        }
    }
}
