import java.lang.reflect.InvocationTargetException;
import java.lang.reflect.Method;
import java.lang.reflect.Modifier;
import java.util.Arrays;
import java.util.Comparator;
import java.util.NoSuchElementException;
import java.util.function.BooleanSupplier;
import java.util.function.IntSupplier;
import java.util.function.IntUnaryOperator;

/** What the tests share: a TEXT fed in pieces of twenty bytes, answers compared, the exit code. */
final class Check {
    private static int wrong = 0;
    private static int asked = 0;
    private static String test = "";

    private Check() {
    }

    static int[] numbers(String text) {
        int[] numbers = new int[(text.length() + 19) / 20 * 5];
        for (int i = 0; i < numbers.length * 4; i++) {
            int sign = i < text.length() ? text.charAt(i) & 255 : ' ';
            numbers[i / 4] |= sign << 24 - i % 4 * 8;
        }
        return numbers;
    }

    static void feed(SleepPost post, String text) {
        int[] n = numbers(text);
        for (int i = 0; i < n.length; i += 5) {
            post.feed(n[i], n[i + 1], n[i + 2], n[i + 3], n[i + 4]);
        }
    }

    static int tell(SleepPost post, String text) {
        feed(post, text);
        return post.text(text.length());
    }

    static SleepPost of(String text) {
        SleepPost post = new SleepPost();
        if (tell(post, text) < 0) {
            same("a text without a fault: " + text, post.fault(0), 0);
        }
        return post;
    }

    /** The TEXT has this FAULT at this place. */
    static void fault(String text, int fault, int place) {
        SleepPost post = new SleepPost();
        same("text of " + text, tell(post, text), -1);
        same("fault(0) of " + text, post.fault(0), fault);
        same("fault(1) of " + text, post.fault(1), place);
    }

    /** The FAULT stands where the text has a '!', which is taken out. */
    static void faultAtMark(String text, int fault) {
        fault(text.replace("!", ""), fault, text.indexOf('!'));
    }

    /** The TEXT has no FAULT and so many LINES. */
    static void fine(String text, int lines) {
        SleepPost post = new SleepPost();
        same("text of " + text, tell(post, text), lines);
        same("fault(0) of " + text, post.fault(0), 0);
        same("fault(1) of " + text, post.fault(1), -1);
    }

    /** 0: look answers; 1: IndexOutOfBoundsException; 2: NoSuchElementException; 3: another one, or one of its kinds. */
    static int lookThrows(SleepPost post, int sleeper, int what) {
        try {
            post.look(sleeper, what);
            return 0;
        } catch (RuntimeException e) {
            return e.getClass() == IndexOutOfBoundsException.class ? 1 : e.getClass() == NoSuchElementException.class ? 2 : 3;
        }
    }

    /** What the calls may change, but for SIGHTS told one by one; some 30 calls of a small town. */
    static String state(SleepPost post) {
        StringBuilder all = new StringBuilder();
        int[] count = new int[15];
        for (int what = 0; what < 15; what++) {
            count[what] = post.count(what);
            all.append(count[what]).append(' ');
        }
        for (int s = 0; s < count[2]; s++) {
            all.append(post.look(s, 0)).append(' ').append(post.look(s, 4)).append(' ').append(post.look(s, 5)).append(' ');
        }
        for (int l = 0; l < count[3]; l++) {
            all.append(post.letter(l, 1)).append(' ').append(post.letter(l, 2)).append(' ').append(post.letter(l, 3)).append(' ');
        }
        for (int h = 0; h < count[0]; h++) {
            all.append(post.at(h, 0, 1)).append(' ');
        }
        return all.toString();
    }

    /** The call refuses each of these: it answers so, and all stays. */
    static void refused(String what, SleepPost post, int[] wrong, IntUnaryOperator call, int due) {
        String before = state(post);
        for (int value : wrong) {
            same(what + " " + value, call.applyAsInt(value), due);
        }
        same(what + ": all stays", state(post).equals(before), true);
    }

    /** The call refuses: it answers so, and all stays. */
    static void refused(String what, SleepPost post, IntSupplier call, int due) {
        refused(what, post, new int[] {0}, none -> call.getAsInt(), due);
    }

    static void refused(String what, SleepPost post, BooleanSupplier call) {
        refused(what, post, new int[] {0}, none -> call.getAsBoolean() ? 1 : 0, 0);
    }

    static void same(String what, long got, long due) {
        asked++;
        if (got != due) {
            wrong++;
            if (wrong <= 50) {
                System.out.println(test + what + " answered " + got + ", due is " + due);
            }
        }
    }

    static void same(String what, boolean got, boolean due) {
        same(what, got ? 1 : 0, due ? 1 : 0);
    }

    /** Runs every method of the class without parameters as a test of its own; each must ask something and throw nothing. */
    static void runAll(Class<?> tests) {
        Method[] methods = tests.getDeclaredMethods();
        Arrays.sort(methods, Comparator.comparing(Method::getName));
        int run = 0;
        for (Method method : methods) {
            if (!Modifier.isStatic(method.getModifiers()) || method.isSynthetic() || method.getParameterCount() > 0 || method.getReturnType() != void.class) {
                continue;
            }
            test = method.getName() + ": ";
            int before = asked;
            try {
                method.setAccessible(true);
                method.invoke(null);
            } catch (InvocationTargetException e) {
                e.getCause().printStackTrace();
                same("it throws", true, false);
            } catch (IllegalAccessException e) {
                same("it can be run", false, true);
            }
            same("it asks something", asked > before, true);
            run++;
        }
        test = "";
        System.out.println(tests.getName() + ": " + run + " tests");
        end(tests.getName());
    }

    static void end(String name) {
        System.out.println(name + ": " + asked + " answers, " + wrong + " wrong");
        if (wrong > 0 || asked == 0) {
            System.exit(1);
        }
    }
}
