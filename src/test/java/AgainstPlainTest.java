import java.util.NoSuchElementException;
import java.util.Random;

/** Runs of calls by chance, each answered by SleepPost and by PlainPost, up to the 512 calls of an object. */
public final class AgainstPlainTest {
    private static final int RUNS = 250;
    private static final int[] EDGES = {Integer.MIN_VALUE, -2, -1, 8, 9, 12, 24, 32, 37, 1000, Integer.MAX_VALUE};

    private final Random random;
    private final RandomTexts texts;
    private final SleepPost post = new SleepPost();
    private final PlainPost plain = new PlainPost();
    private final StringBuilder told = new StringBuilder();
    private int calls = 0;

    private AgainstPlainTest(int run) {
        random = new Random(run);
        texts = new RandomTexts(run);
        told.append("run ").append(run).append(':');
    }

    /** Other runs than the usual ones: java AgainstPlainTest FIRST HOW_MANY. */
    public static void main(String[] args) {
        int first = args.length > 0 ? Integer.parseInt(args[0]) : 0;
        int runs = args.length > 1 ? Integer.parseInt(args[1]) : RUNS;
        for (int run = first; run < first + runs; run++) {
            new AgainstPlainTest(run).go();
        }
        for (int run = first; run < first + 16 * runs; run++) {
            new AgainstPlainTest(1000000 + run).tell(true);
        }
        Check.end("AgainstPlainTest");
    }

    private void go() {
        if (random.nextInt(10) > 0) {
            tell(false);
        }
        int most = random.nextInt(10) == 0 ? 440 : 120;
        while (calls < most) {
            call();
        }
        for (int what = 0; what < 15; what++) {
            same("count(" + what + ")", post.count(what), plain.count(what));
        }
    }

    private void same(String call, long got, long due) {
        calls++;
        Check.same(told + " " + call, got, due);
        told.append(' ').append(call);
    }

    private void same(String call, boolean got, boolean due) {
        same(call, got ? 1 : 0, due ? 1 : 0);
    }

    private void tell(boolean spoiled) {
        String text = spoiled ? texts.spoiled() : texts.whole();
        told.append(" [").append(text).append(']');
        int[] n = Check.numbers(text);
        for (int i = 0; i < n.length; i += 5) {
            same("feed", post.feed(n[i], n[i + 1], n[i + 2], n[i + 3], n[i + 4]), plain.feed(n[i], n[i + 1], n[i + 2], n[i + 3], n[i + 4]));
        }
        same("text(" + text.length() + ")", post.text(text.length()), plain.text(text.length()));
        same("fault(0)", post.fault(0), plain.fault(0));
        same("fault(1)", post.fault(1), plain.fault(1));
        same("count(5)", post.count(5), plain.count(5));
    }

    /** Mostly one of 0 .. most - 1, now and then a number at or beyond an edge. */
    private int some(int most) {
        int kind = random.nextInt(25);
        return kind == 0 ? EDGES[random.nextInt(EDGES.length)] : kind == 1 ? most : random.nextInt(Math.max(1, most));
    }

    private int house() {
        return some(plain.count(0));
    }

    private int sleeper() {
        return some(plain.count(2));
    }

    private int letter() {
        return some(plain.count(3));
    }

    private void call() {
        switch (random.nextInt(6)) {
            case 0:
                change();
                break;
            case 1:
            case 2:
                ask();
                break;
            case 3:
                guess();
                break;
            default:
                askMore();
                break;
        }
    }

    private void change() {
        int l = letter();
        int s = sleeper();
        int h = house();
        int loud = some(10);
        boolean is = random.nextBoolean();
        switch (random.nextInt(12)) {
            case 0:
                same("lay(" + l + ", " + s + ")", post.lay(l, s), plain.lay(l, s));
                break;
            case 1:
                same("lit(" + h + ", " + is + ")", post.lit(h, is), plain.lit(h, is));
                break;
            case 2:
                same("bell(" + h + ", " + loud + ")", post.bell(h, loud), plain.bell(h, loud));
                break;
            case 3:
            case 4:
                int n = random.nextInt(3) == 0 ? some(37) : some(7);
                same("hours(" + n + ")", post.hours(n), plain.hours(n));
                break;
            case 5:
            case 6:
                same("undo()", post.undo(), plain.undo());
                break;
            case 7:
                same("keep()", post.keep(), plain.keep());
                break;
            case 8:
                same("back()", post.back(), plain.back());
                break;
            case 9:
                for (int i = random.nextInt(30); i > 0; i--) {
                    loud = random.nextInt(10);
                    same("bell(" + h + ", " + loud + ")", post.bell(h, loud), plain.bell(h, loud));
                }
                break;
            default:
                if (random.nextInt(12) == 0) {
                    tell(random.nextBoolean());
                }
                break;
        }
    }

    private void ask() {
        int h = house();
        int other = house();
        int s = sleeper();
        int l = letter();
        int hour = some(12);
        int what = some(8);
        switch (random.nextInt(7)) {
            case 0:
                same("named(" + what % 2 + ", ..)", post.named(what % 2, 8 << 25 | h + 1 << 20), plain.named(what % 2, 8 << 25 | h + 1 << 20));
                same("named(" + what % 3 + ", ..)", post.named(what % 3, 19 << 25 | s + 1 << 20), plain.named(what % 3, 19 << 25 | s + 1 << 20));
                break;
            case 1:
                same("look(" + s + ", " + what + ")", look(s, what, false), look(s, what, true));
                break;
            case 2:
                same("letter(" + l + ", " + what + ")", post.letter(l, what), plain.letter(l, what));
                break;
            case 3:
                same("far(" + h + ", " + other + ")", post.far(h, other), plain.far(h, other));
                break;
            case 4:
                same("at(" + h + ", " + hour + ", " + what % 3 + ")", post.at(h, hour, what % 3), plain.at(h, hour, what % 3));
                break;
            case 5:
                same("law(" + what % 4 + ", " + s + ", " + h + ")", post.law(what % 4, s, h), plain.law(what % 4, s, h));
                break;
            default:
                what = some(15);
                same("count(" + what + ")", post.count(what), plain.count(what));
                break;
        }
    }

    private long look(int sleeper, int what, boolean plainly) {
        try {
            return plainly ? plain.look(sleeper, what) : post.look(sleeper, what);
        } catch (IndexOutOfBoundsException e) {
            return -100;
        } catch (NoSuchElementException e) {
            return -200;
        }
    }

    private void askMore() {
        int s = sleeper();
        int other = sleeper();
        int h = house();
        int l = letter();
        int hour = random.nextInt(3) == 0 ? some(12) : plain.count(6) + random.nextInt(12 - plain.count(6));
        switch (random.nextInt(10)) {
            case 0:
                same("where(" + s + ", " + hour + ")", post.where(s, hour), plain.where(s, hour));
                break;
            case 1:
                same("match(" + l + ")", post.match(l), plain.match(l));
                break;
            case 2:
                same("lead(" + s + ", " + h + ", " + hour + ")", post.lead(s, h, hour), plain.lead(s, h, hour));
                break;
            case 3:
                same("chain(" + l + ")", post.chain(l), plain.chain(l));
                break;
            case 4:
                same("meet(" + s + ", " + other + ")", post.meet(s, other), plain.meet(s, other));
                break;
            case 5:
                same("brought(" + h + ")", post.brought(h), plain.brought(h));
                break;
            case 6:
                int bits = some(1 << plain.count(2));
                same("cost(" + bits + ")", post.cost(bits), plain.cost(bits));
                same("need()", post.need(), plain.need());
                break;
            case 7:
                int seed = random.nextInt(20) == 0 ? EDGES[random.nextInt(EDGES.length)] : random.nextInt() & Integer.MAX_VALUE;
                int n = some(10);
                same("chance(" + seed + ", " + l + ", " + n + ")", post.chance(seed, l, n), plain.chance(seed, l, n));
                break;
            default:
                int what = some(8);
                int i = what == 6 ? s : what == 7 ? some(plain.count(1)) : random.nextInt(10) == 0 ? s : 0;
                same("tried(" + what + ", " + i + ")", post.tried(what, i), plain.tried(what, i));
                break;
        }
    }

    private void guess() {
        int s = sleeper();
        int h = house();
        int hour = some(12);
        int one = some(10);
        int other = some(10);
        switch (random.nextInt(8)) {
            case 0:
                if (random.nextBoolean() && plain.where(s, 11) >= 0) {
                    h = plain.where(s, 11);
                }
                same("sight(" + hour + ", " + s + ", " + h + ")", post.sight(hour, s, h), plain.sight(hour, s, h));
                break;
            case 1:
                int sight = some(plain.count(12));
                same("strike(" + sight + ")", post.strike(sight), plain.strike(sight));
                break;
            case 2:
                int n = random.nextInt(3) == 0 ? -1 : some(plain.count(12) + 1);
                same("known(" + n + ")", post.known(n), plain.known(n));
                break;
            case 3:
                same("dreamt(" + s + ")", post.dreamt(s), plain.dreamt(s));
                break;
            case 4:
            case 5:
                int what = some(2);
                same("tells(" + s + ", " + what + ")", post.tells(s, what), plain.tells(s, what));
                break;
            case 6:
                same("rests(" + one + ", " + other + ")", post.rests(one, other), plain.rests(one, other));
                break;
            default:
                int k = some(6);
                same("rest(" + one + ", " + other + ", " + k + ")", post.rest(one, other, k), plain.rest(one, other, k));
                break;
        }
    }
}
