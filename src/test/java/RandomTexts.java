import java.util.Random;

/** Texts by chance: whole ones, and ones that something was done to. */
final class RandomTexts {
    private static final String[] NAMES = {"deep", "far", "light", "noise", "mail", "hour", "way"};
    private static final String[] SIGNS = {"+", "-", "*", "/", "<", "<=", "=", "<>", ">=", ">", "and", "or"};
    private static final String[] PULLS = {
        "100-far", "light*9-far", "0-far*3+light*20-noise", "way*way-far", "hour-way*2+light*5", "mail*5-way-far",
        "(hour<6)*(0-far)+(hour>=6)*way", "noise*2-far+light*light", "100/(light-1)", "hour*hour*hour/way", "far"
    };
    private static final String[] WAKES = {
        "noise*10", "noise*9-deep*9", "(noise>deep)*60", "mail*20", "hour*5", "50", "49", "100-deep*10", "1/noise", "30"
    };
    private static final String[] DROPS = {"mail>1", "mail>2 and hour>3", "light", "noise>3", "hour=5", "1", "mail/noise"};
    private static final String[] PIECES = {
        ";", ";;", "(", ")", "house", "street", "sleeper", "letter", "lamp", "bell", "cat", "corner", "seed", "law", "pull", "wake",
        "drop", "or", "and", "not", "deep", "9", "10", "12", "99999", "100000", "0", "a", "zz", "abcdefg", "sleepers", "<", "<=", "=",
        "<>", ">=", ">", "+", "-", "*", "/", "A", "_", "\n", "house a;", "house aa;", "law pull 1;", "seed 5;", "99999999999999999999"
    };

    private final Random random;

    RandomTexts(long seed) {
        random = new Random(seed);
    }

    private boolean in(int of) {
        return random.nextInt(of) == 0;
    }

    private <T> T any(T[] of) {
        return of[random.nextInt(of.length)];
    }

    private String house(int houses) {
        return "h" + (char) ('a' + random.nextInt(houses));
    }

    String whole() {
        for (int i = 0; i < 100; i++) {
            String text = draft();
            if (text.length() <= 700) {
                return text;
            }
        }
        return "";
    }

    private String draft() {
        StringBuilder text = new StringBuilder();
        int houses = in(20) ? 1 : 2 + random.nextInt(7);
        int sleepers = in(30) ? 0 : 1 + random.nextInt(5);
        for (int i = 0; i < houses; i++) {
            text.append("house h").append((char) ('a' + i)).append(';');
        }
        boolean[][] joined = new boolean[8][8];
        for (int i = 0, streets = 0; i < 14 && streets < 12; i++) {
            int a = random.nextInt(houses);
            int b = random.nextInt(houses);
            if (a != b && !joined[a][b]) {
                joined[a][b] = true;
                joined[b][a] = true;
                streets++;
                text.append("street h").append((char) ('a' + a)).append(" h").append((char) ('a' + b)).append(' ')
                    .append(1 + random.nextInt(9)).append(';');
            }
        }
        for (int i = 0; i < sleepers; i++) {
            text.append("sleeper s").append((char) ('a' + i)).append(' ').append(house(houses)).append(' ')
                .append(random.nextInt(10)).append(' ').append(house(houses)).append(';');
        }
        int letters = sleepers == 0 ? 0 : random.nextInt(in(4) ? 9 : 5);
        for (int i = 0; i < letters; i++) {
            text.append("letter s").append((char) ('a' + random.nextInt(sleepers))).append(' ').append(house(houses)).append(';');
        }
        for (int i = random.nextInt(4); i > 0; i--) {
            int from = random.nextInt(12);
            text.append("lamp ").append(house(houses)).append(' ').append(from).append(' ')
                .append(from + random.nextInt(12 - from)).append(";");
        }
        for (int h = 0; h < houses; h++) {
            String name = " h" + (char) ('a' + h);
            if (in(5)) text.append("bell").append(name).append(' ').append(1 + random.nextInt(9)).append(";");
            if (in(5)) text.append("cat").append(name).append(';');
            if (in(5)) text.append("corner").append(name).append(' ').append(1 + random.nextInt(9)).append(';');
        }
        if (in(2)) text.append("seed ").append(random.nextInt(100000)).append(';');
        law(text, "pull", PULLS);
        law(text, "wake", WAKES);
        law(text, "drop", DROPS);
        return text.toString();
    }

    private void law(StringBuilder text, String rule, String[] usual) {
        if (in(3)) {
            return;
        }
        text.append("law ").append(rule).append(' ').append(in(3) ? or(3) : any(usual)).append(';');
    }

    String or(int depth) {
        StringBuilder s = new StringBuilder(side(depth));
        for (int i = random.nextInt(4); i > 0; i--) {
            String sign = any(SIGNS);
            boolean word = sign.length() > 1 && Character.isLetter(sign.charAt(0));
            s.append(word ? " " + sign + " " : sign).append(word && in(3) ? "not " : "").append(side(depth));
        }
        return s.toString();
    }

    private String side(int depth) {
        if (depth > 0 && in(3)) {
            return "(" + (in(4) ? "not " : "") + or(depth - 1) + ")";
        }
        return in(2) ? any(NAMES) : String.valueOf(random.nextInt(in(4) ? 10000 : 12));
    }

    String spoiled() {
        StringBuilder text = new StringBuilder(in(8) ? manyKnots() : whole());
        for (int i = in(3) ? 2 : 1; i > 0 && text.length() > 0; i--) {
            int at = random.nextInt(text.length());
            switch (random.nextInt(4)) {
                case 0:
                    text.delete(at, Math.min(text.length(), at + 1 + random.nextInt(3)));
                    break;
                case 1:
                    text.insert(at, any(PIECES));
                    break;
                case 2:
                    text.insert(at, " " + any(PIECES) + " ");
                    break;
                default:
                    int end = text.indexOf(";", at);
                    String line = end < 0 ? "" : text.substring(text.lastIndexOf(";", at - 1) + 1, end + 1);
                    text.insert(end + 1, line);
                    break;
            }
        }
        return text.length() <= 700 ? text.toString() : text.substring(0, 700);
    }

    String manyKnots() {
        StringBuilder text = new StringBuilder("law pull ");
        for (int i = random.nextInt(10); i > 0; i--) {
            text.append('(');
        }
        text.append("1");
        for (int i = 20 + random.nextInt(16); i > 0; i--) {
            text.append(any(SIGNS)).append(in(5) ? "not " : "").append(in(9) ? "(" : "").append(any(NAMES)).append(in(9) ? ")" : "");
        }
        return text.append(";law wake ").append(or(2)).append(";").toString();
    }
}
