import java.util.NoSuchElementException;
import java.util.Random;

/** Wild arguments in any state, 512 calls on each object: nothing is thrown but what look promises. */
public final class NeverThrowsTest {
    private static final int RUNS = 400;
    private static final int CALLS = 512;
    private static final int METHODS = 34;

    private final Random random;
    private final RandomTexts texts;
    private final SleepPost post = new SleepPost();
    private int calls = 0;

    private NeverThrowsTest(int run) {
        random = new Random(run);
        texts = new RandomTexts(run);
    }

    public static void main(String[] args) {
        for (int run = 0; run < RUNS; run++) {
            new NeverThrowsTest(run).go(run);
        }
        Check.end("NeverThrowsTest");
    }

    private void go(int run) {
        if (run % 8 > 0) {
            tell();
        }
        while (calls < CALLS - 40) {
            int method = random.nextInt(METHODS);
            int a = wild();
            int b = wild();
            int c = wild();
            boolean threw = false;
            try {
                call(method, a, b, c);
            } catch (Throwable t) {
                threw = true;
                System.out.println(t);
            }
            Check.same("run " + run + ", method " + method + " of " + a + ", " + b + ", " + c + " throws", threw, false);
        }
    }

    private int wild() {
        switch (random.nextInt(8)) {
            case 0:
                return random.nextInt();
            case 1:
                return random.nextInt(70) - 35;
            case 2:
                return random.nextBoolean() ? Integer.MIN_VALUE : Integer.MAX_VALUE;
            case 3:
                return random.nextInt(13);
            default:
                return random.nextInt(6);
        }
    }

    private void tell() {
        int kind = random.nextInt(4);
        StringBuilder noise = new StringBuilder();
        for (int i = random.nextInt(700); i > 0 && kind == 0; i--) {
            noise.append((char) random.nextInt(256));
        }
        String text = kind == 0 ? noise.toString() : kind == 1 ? texts.spoiled() : texts.whole();
        Check.tell(post, text);
        calls += text.length() / 20 + 2;
    }

    private void look(int sleeper, int what) {
        int thrown = 0;
        try {
            post.look(sleeper, what);
        } catch (IndexOutOfBoundsException e) {
            thrown = e.getClass() == IndexOutOfBoundsException.class ? 1 : 3;
        } catch (NoSuchElementException e) {
            thrown = 2;
        }
        int due = sleeper < 0 || sleeper >= post.count(2) ? 1 : what < 0 || what > 5 ? 2 : 0;
        Check.same("look(" + sleeper + ", " + what + ") throws", thrown, due);
    }

    private void call(int method, int a, int b, int c) {
        calls++;
        switch (method) {
            case 0: if (random.nextInt(3) == 0) tell(); break;
            case 1: post.feed(a, b, c, a, b); break;
            case 2: if (random.nextInt(9) == 0) post.text(a); break;
            case 3: post.fault(a); break;
            case 4: post.named(a, b); break;
            case 5: look(a, b); break;
            case 6: post.letter(a, b); break;
            case 7: post.far(a, b); break;
            case 8: post.at(a, b, c); break;
            case 9: post.law(a, b, c); break;
            case 10: post.lay(a, b); break;
            case 11: post.lit(a, b > 0); break;
            case 12: post.bell(a, b); break;
            case 13: post.hours(a); break;
            case 14: post.where(a, b); break;
            case 15: post.match(a); break;
            case 16: post.lead(a, b, c); break;
            case 17: post.chain(a); break;
            case 18: post.meet(a, b); break;
            case 19: post.sight(a, b, c); break;
            case 20: post.strike(a); break;
            case 21: post.known(a); break;
            case 22: post.dreamt(a); break;
            case 23: post.tells(a, b); break;
            case 24: post.rests(a, b); break;
            case 25: post.rest(a, b, c); break;
            case 26: post.brought(a); break;
            case 27: post.cost(a); break;
            case 28: post.need(); break;
            case 29: post.chance(a, b, c); break;
            case 30: post.tried(a, b); break;
            case 31: post.undo(); break;
            case 32: post.keep(); break;
            default: post.back(); post.count(a); break;
        }
    }
}
