/** What the tests share: a TEXT fed in pieces of twenty bytes, answers compared, the exit code. */
final class Check {
    private static int wrong = 0;
    private static int asked = 0;

    private Check() {
    }

    static int[] numbers(String text) {
        int[] numbers = new int[(text.length() + 19) / 20 * 5];
        for (int i = 0; i < numbers.length * 4; i++) {
            int sign = i < text.length() ? text.charAt(i) & 255 : ' ';
            numbers[i / 4] |= sign << 24 - i % 4 * 8;
        }
        return numbers;
    }

    static int tell(SleepPost post, String text) {
        int[] n = numbers(text);
        for (int i = 0; i < n.length; i += 5) {
            post.feed(n[i], n[i + 1], n[i + 2], n[i + 3], n[i + 4]);
        }
        return post.text(text.length());
    }

    static SleepPost of(String text) {
        SleepPost post = new SleepPost();
        if (tell(post, text) < 0) {
            same("a text without a fault: " + text, post.fault(0), 0);
        }
        return post;
    }

    static void same(String what, long got, long due) {
        asked++;
        if (got != due) {
            wrong++;
            if (wrong <= 50) {
                System.out.println(what + " answered " + got + ", due is " + due);
            }
        }
    }

    static void same(String what, boolean got, boolean due) {
        same(what, got ? 1 : 0, due ? 1 : 0);
    }

    static void end(String name) {
        System.out.println(name + ": " + asked + " answers, " + wrong + " wrong");
        if (wrong > 0 || asked == 0) {
            System.exit(1);
        }
    }
}
