/** HOURS, numbers and promises 14 to 19: each sentence that names a boundary has a test of its own. */
public final class BoundaryNightTest {
    private static final int MIN = Integer.MIN_VALUE;
    private static final int MAX = Integer.MAX_VALUE;
    /** Four houses in a row, a b c d, with streets of 1, 2, 3. */
    private static final String ROW = "house a;house b;house c;house d;street a b 1;street b c 2;street c d 3;";
    private static final String AB = "house a;house b;street a b 1;";
    private static final String ABC = "house a;house b;house c;street a b 1;street b c 1;";
    private static final String EIGHT = "house a;house b;house c;house d;house e;house f;house g;house h;";
    /** x stays in a up to HOUR 11 and walks to b then. */
    private static final String LATE = AB + "sleeper x a 9 b;letter x b;law pull (hour=11)*(9-far)+(hour<11)*far;";

    public static void main(String[] args) {
        Check.runAll(BoundaryNightTest.class);
    }

    private static int number(long[] state) {
        state[0] = (state[0] * 1103515245L + 12345L) % (1L << 31);
        return (int) (state[0] / 65536);
    }

    /** The least seed whose first number is this, modulo 100. */
    private static int seedOf(int first) {
        for (int seed = 0; seed < 99999; seed++) {
            if (number(new long[] {seed}) % 100 == first) {
                return seed;
            }
        }
        throw new IllegalStateException("no such seed");
    }

    // ---- an HOUR: taking letters ----

    static void allLettersThatLieThereAreTaken() {
        SleepPost post = Check.of(ROW + "sleeper x a 9 b;sleeper y a 9 b;" + "letter x d;letter y d;".repeat(4));
        post.hours(1);
        Check.same("all by the first", post.look(0, 5), 255);
        Check.same("none by the second", post.look(1, 5), 0);
    }

    static void lettersAreTakenInTheHouseOfOnesBedAlone() {
        // y is woken in b, where the letter lies then; x comes to b, and it is not the house of x's bed.
        SleepPost post = Check.of(ABC + "sleeper y b 0 b;sleeper x a 9 b;letter y c;bell b 1;");
        post.hours(11);
        Check.same("x stands there", post.look(1, 0), 1);
        Check.same("it lies", post.letter(0, 2), 0);
        Check.same("there", post.letter(0, 1), 1);
    }

    static void lettersAreTakenAgainOnTheWayBack() {
        // x lays all down in b in the first hour; back in a there is nothing; the second sleeper's bed is in b.
        SleepPost post = Check.of(AB + "sleeper x a 9 a;letter x b;law pull (hour=0)*far+(hour>0)*(9-far);law drop hour=0 and deep=8;");
        post.hours(1);
        Check.same("arrived on the way", post.letter(0, 2), 2);
        post = Check.of(ABC + "sleeper x a 9 a;sleeper y b 8 a;letter y c;law pull 9-far;law drop hour<2;");
        post.hours(1);
        Check.same("y laid it down in a", post.letter(0, 1), 0);
        Check.same("it lies", post.letter(0, 2), 0);
        post.hours(1);
        Check.same("x took it and laid it down", post.letter(0, 3), 0);
        Check.same("it lies", post.letter(0, 2), 0);
        post.hours(1);
        Check.same("x has it", post.letter(0, 2), 1);
    }

    static void lettersThatArrivedAreNotTaken() {
        SleepPost post = Check.of(AB + "sleeper x a 9 b;sleeper y b 9 a;letter x b;");
        post.hours(1);
        Check.same("arrived", post.letter(0, 2), 2);
        post.hours(20);
        Check.same("still arrived", post.letter(0, 2), 2);
        Check.same("not y's", post.letter(0, 3), 0);
    }

    static void oneWhoIsWokenTakesNothing() {
        String text = AB + "house c;sleeper x a 0 a;sleeper y b 9 a;letter y c;law drop far=0 and deep=9 and hour=0;";
        SleepPost post = Check.of(text + "bell a 1;");
        post.hours(11);
        Check.same("x is woken", post.look(0, 4), 1);
        Check.same("it lies", post.letter(0, 2), 0);
        post = Check.of(text);
        post.hours(2);
        Check.same("not woken, x takes it", post.look(0, 5), 1);
    }

    // ---- an HOUR: the greatest PULL ----

    static void ofLikePullsOneStays() {
        Check.same("in a", Check.of(ABC + "sleeper x a 0 a;law pull 5;").where(0, 11), 0);
        Check.same("in b", Check.of(ABC + "sleeper x b 0 a;law pull 5;").where(0, 11), 1);
        Check.same("in c", Check.of(ABC + "sleeper x c 0 a;law pull 0-5;").where(0, 11), 2);
    }

    static void ofLikePullsElsewhereTheLeastNumberCounts() {
        Check.same("a or c", Check.of(ABC + "sleeper x b 0 a;law pull way;").where(0, 0), 0);
        String star = EIGHT + "street e h 1;street e d 1;street e f 1;street e b 1;";
        Check.same("b d f h", Check.of(star + "sleeper x e 0 a;law pull way;").where(0, 0), 1);
        Check.same("d f h", Check.of(star + "sleeper x e 0 a;law pull way-light;lamp b 0 0;").where(0, 0), 3);
        Check.same("h", Check.of(star + "sleeper x e 0 a;law pull way+light;lamp h 0 0;").where(0, 0), 7);
    }

    static void onlyAStreetAway() {
        Check.same("c is two away", Check.of(ABC + "sleeper x a 0 c;law pull 0-far+light*100;lamp c 0 11;").where(0, 0), 1);
        Check.same("no street at all", Check.of("house a;house b;sleeper x a 0 b;").where(0, 11), 0);
        Check.same("one house", Check.of("house a;sleeper x a 0 a;").where(0, 11), 0);
    }

    static void pullWithoutALawIs100LessFar() {
        Check.same("to the dream", Check.of(ROW + "sleeper x a 0 d;").where(0, 2), 3);
        Check.same("none leads there", Check.of(AB + "house c;sleeper x a 0 c;").where(0, 11), 0);
        // The longer street leads nearer.
        Check.same("nearer", Check.of(ABC + "house d;street a d 9;street d c 5;street b d 9;sleeper x d 0 c;").where(0, 0), 2);
    }

    static void pullWithAnErrorIs100LessFar() {
        // In b, which is lit, PULL is the number; in a, the house of the dream, 100 by the ERROR.
        Check.same("99", Check.of(AB + "sleeper x a 0 a;lamp b 0 0;law pull 99/light;").where(0, 0), 0);
        Check.same("100", Check.of(AB + "sleeper x a 0 a;lamp b 0 0;law pull 100/light;").where(0, 0), 0);
        Check.same("101", Check.of(AB + "sleeper x a 0 a;lamp b 0 0;law pull 101/light;").where(0, 0), 1);
        Check.same("an error elsewhere: 99", Check.of(AB + "sleeper x a 0 a;lamp a 0 0;law pull 98/light;").where(0, 0), 1);
        Check.same("an error elsewhere: 99", Check.of(AB + "sleeper x a 0 a;lamp a 0 0;law pull 99/light;").where(0, 0), 0);
    }

    static void pullWithAnErrorWithoutAWayIs1() {
        String text = AB + "house c;sleeper x a 0 c;lamp b 0 0;law pull ";
        Check.same("1", Check.of(text + "1/light;").where(0, 0), 0);
        Check.same("2", Check.of(text + "2/light;").where(0, 0), 1);
        Check.same("0", Check.of(text + "0/light;").where(0, 0), 0);
    }

    static void pullsAtTheirBounds() {
        String most = "1000*1000*1000*1000";
        Check.same("10 to the 12", Check.of(AB + "sleeper x a 0 a;lamp b 0 0;law pull " + most + "-1+light;").where(0, 0), 1);
        Check.same("below 0", Check.of(AB + "sleeper x a 0 a;lamp b 0 0;law pull light-" + most + ";").where(0, 0), 1);
        Check.same("above is 99", Check.of(AB + "sleeper x a 0 a;lamp b 0 0;law pull " + most + "-1+light*2;").where(0, 0), 0);
    }

    static void hourAndLightAreOfTheHourItIs() {
        SleepPost post = Check.of(AB + "sleeper x a 0 a;lamp b 5 6;law pull light*2-far;");
        for (int hour = 0; hour < 12; hour++) {
            Check.same("hour " + hour, post.where(0, hour), hour == 5 || hour == 6 ? 1 : 0);
        }
    }

    // ---- an HOUR: leaving letters ----

    static void lettersForTheHouseArriveAndNoOthers() {
        SleepPost post = Check.of(ROW + "sleeper x a 9 d;letter x b;letter x c;letter x d;letter x a;");
        int[] hand = {14, 12, 8};
        for (int hour = 0; hour < 3; hour++) {
            post.hours(1);
            Check.same("in hand behind hour " + hour, post.look(0, 5), hand[hour]);
            Check.same("arrived", post.count(8), hour + 1);
        }
    }

    static void dropAbove0LeavesAll() {
        int[] lies = {0, 1, 1};
        String[] drops = {"0", "1", "9999"};
        for (int i = 0; i < 3; i++) {
            SleepPost post = Check.of(ABC + "sleeper x a 9 b;letter x c;letter x b;law drop " + drops[i] + ";");
            post.hours(1);
            Check.same("drop " + drops[i], post.look(0, 5), lies[i] == 1 ? 0 : 1);
            Check.same("the one for b arrived", post.letter(1, 2), 2);
            Check.same("the other one lies", post.letter(0, 2), lies[i] == 1 ? 0 : 1);
            Check.same("x had it", post.letter(0, 3), 0);
        }
    }

    static void dropBelow0OrWithAnErrorIsNone() {
        for (String drop : new String[] {"0-1", "1/0", "0-1000*1000*1000*1000-1", "1000*1000*1000*1000+1"}) {
            SleepPost post = Check.of(ABC + "sleeper x a 9 b;letter x c;law drop " + drop + ";");
            post.hours(1);
            Check.same("drop " + drop, post.look(0, 5), 1);
        }
    }

    static void mailOfDropIsWithoutWhatArrived() {
        SleepPost post = Check.of(ABC + "sleeper x a 9 b;letter x b;letter x c;law drop mail=2;");
        post.hours(1);
        Check.same("one is left", post.look(0, 5), 2);
        post = Check.of(ABC + "sleeper x a 9 b;letter x b;letter x c;law drop mail=1;");
        post.hours(1);
        Check.same("none is left", post.look(0, 5), 0);
    }

    static void whoDropsIsNotWokenAndTakesNoNumber() {
        // The first number of seed 1 is 38 modulo 100, the second one 58.
        String text = "house a;sleeper x a 9 a;sleeper y a 0 a;seed 1;law drop deep=9 and hour=0;law wake ";
        SleepPost post = Check.of(text + "100;");
        post.hours(1);
        Check.same("x", post.look(0, 4), 0);
        Check.same("y", post.look(1, 4), 1);
        post = Check.of(text + "(deep=0)*39+(deep=9)*99;");
        post.hours(1);
        Check.same("y has the first number", post.look(1, 4), 1);
    }

    // ---- an HOUR: WAKE ----

    private static int woken(int seed, String wake) {
        SleepPost post = Check.of("house a;sleeper x a 0 a;seed " + seed + ";law wake " + wake + ";");
        post.hours(1);
        return post.look(0, 4);
    }

    static void aNumberMustBeBelowWake() {
        for (int wake : new int[] {1, 2, 38, 50, 98, 99}) {
            Check.same("one below " + wake, woken(seedOf(wake - 1), "" + wake), 1);
            Check.same("just " + wake, woken(seedOf(wake), "" + wake), 0);
        }
    }

    static void wakeOf0IsNever() {
        Check.same("0", woken(seedOf(0), "0"), 0);
        Check.same("below 0", woken(seedOf(0), "0-1"), 0);
        Check.same("far below", woken(seedOf(0), "0-9999*9999"), 0);
    }

    static void wakeOf100IsAlways() {
        Check.same("100", woken(seedOf(99), "100"), 1);
        Check.same("101", woken(seedOf(99), "101"), 1);
        Check.same("far above", woken(seedOf(99), "9999*9999"), 1);
        Check.same("99", woken(seedOf(99), "99"), 0);
    }

    /** Whether y has the first number, when x, ahead of it, has such a WAKE. */
    private static int firstNumber(String wake) {
        SleepPost post = Check.of("house a;sleeper x a 9 a;sleeper y a 0 a;seed 1;law wake (deep=9)*(" + wake + ")+(deep=0)*39;");
        post.hours(1);
        return post.look(1, 4);
    }

    static void noNumberFor0And100() {
        Check.same("0", firstNumber("0"), 1);
        Check.same("below 0", firstNumber("0-7"), 1);
        Check.same("100", firstNumber("100"), 1);
        Check.same("101", firstNumber("101"), 1);
        Check.same("1 takes one", firstNumber("1"), 0);
        Check.same("99 takes one", firstNumber("99"), 0);
    }

    static void noNumberOfNoise() {
        SleepPost post = Check.of("house a;sleeper x a 0 a;sleeper y a 9 a;seed 1;cat a;law wake (deep=9)*39+(deep=0)/0;");
        post.hours(1);
        Check.same("an error for both", post.count(10), 1);
        post = Check.of("house a;sleeper x a 0 a;sleeper y a 9 a;seed 1;cat a;law wake 39/(deep/9);");
        post.hours(1);
        Check.same("x by the noise", post.look(0, 4), 1);
        Check.same("y by the first number", post.look(1, 4), 1);
    }

    static void noiseMustBeAboveDeep() {
        for (String law : new String[] {"", "law wake 1/0;"}) {
            for (int deep = 0; deep <= 9; deep++) {
                SleepPost post = Check.of("house a;sleeper x a " + deep + " a;corner a 5;" + law);
                Check.same("at first", post.look(0, 4), 0);
                post.hours(1);
                Check.same("noise 5, deep " + deep, post.look(0, 4), deep < 5 ? 1 : 0);
            }
            SleepPost post = Check.of("house a;sleeper x a 0 a;" + law);
            post.hours(12);
            Check.same("noise 0, deep 0", post.look(0, 4), 0);
        }
    }

    static void asItGoesWakeIs50AtLeast() {
        String text = ABC + "sleeper x a 0 c;law wake ";
        Check.same("49", Check.of(text + "49;").where(0, 11), 2);
        Check.same("50", Check.of(text + "50;").where(0, 11), 1);
        Check.same("51", Check.of(text + "51;").where(0, 11), 1);
        Check.same("100", Check.of(text + "100;").where(0, 11), 1);
        Check.same("above", Check.of(text + "9999;").where(0, 11), 1);
        Check.same("below 0", Check.of(text + "0-50;").where(0, 11), 2);
        Check.same("noise by an error", Check.of(text + "1/0;cat b;").where(0, 11), 1);
        Check.same("no noise by an error", Check.of(text + "1/0;").where(0, 11), 2);
    }

    static void asItGoesTakesNoNumbers() {
        SleepPost post = Check.of("house a;sleeper x a 0 a;letter x a;seed 1;law wake 39;");
        post.where(0, 11);
        post.match(0);
        post.lead(0, 0, 0);
        post.chain(0);
        post.need();
        post.tried(0, 0);
        post.dreamt(0);
        post.rests(1, 1);
        post.chance(7, 0, 9);
        post.hours(1);
        Check.same("the first number", post.look(0, 4), 1);
    }

    static void asItGoesIsWithoutNumbersBehindHoursAndChanceToo() {
        // The numbers of seed 1 are 38, 58, 13, 15 .. modulo 100: by them WAKE 49 wakes at once, and 50 does not in hour 1.
        SleepPost post = Check.of("house a;house b;house c;house d;street a b 1;street b c 1;street c d 1;sleeper x a 0 d;letter x d;seed 1;law wake (hour>0)*49;");
        post.hours(1);
        Check.same("49 never wakes", post.where(0, 11), 3);
        post.chance(1, 0, 1);
        Check.same("49 never wakes", post.where(0, 11), 3);
        Check.same("49 never wakes", post.tried(0, 0), 1);
        Check.same("49 never wakes", post.chain(0), 1);
        post = Check.of("house a;house b;house c;house d;street a b 1;street b c 1;street c d 1;sleeper x a 0 d;letter x d;seed 1;law wake (hour=1)*50+(hour=0)*1;");
        post.hours(1);
        Check.same("50 always wakes", post.where(0, 11), 2);
        Check.same("50 always wakes", post.tried(0, 0), 0);
    }

    static void wayIs0ForWakeAndDropOnTheWay() {
        SleepPost post = Check.of(ROW + "sleeper x a 9 d;letter x d;letter x b;law wake way*100;law drop way;");
        Check.same("not woken", post.where(0, 2), 3);
        Check.same("nothing is let go", post.tried(0, 0), 2);
    }

    static void wokenAllInHandLiesThere() {
        SleepPost post = Check.of(ABC + "sleeper x a 0 c;letter x b;letter x c;cat b;");
        post.hours(1);
        Check.same("none in hand", post.look(0, 5), 0);
        Check.same("the one for b arrived ahead of that", post.letter(0, 2), 2);
        Check.same("the other one lies in b", post.letter(1, 1) * 10 + post.letter(1, 2), 10);
    }

    // ---- numbers ----

    /** All five draw in each hour till they are woken; the seed, and what is beyond 31 bits, tell. */
    static void numbersGoOnFromTheSeedOverTheNights() {
        String five = "house a;sleeper p a 0 a;sleeper q a 0 a;sleeper r a 0 a;sleeper s a 0 a;sleeper t a 0 a;law wake 11;";
        for (int seed : new int[] {0, 1, 2, 9, 12345, 65535, 65536, 99998, 99999}) {
            SleepPost post = Check.of(five + "seed " + seed + ";");
            long[] state = {seed};
            int woken = 0;
            for (int hour = 0; hour < 40; hour++) {
                woken = hour % 12 == 0 ? 0 : woken;
                for (int s = 0; s < 5; s++) {
                    if ((woken >> s & 1) == 0 && number(state) % 100 < 11) {
                        woken |= 1 << s;
                    }
                }
                post.hours(1);
                for (int s = 0; s < 5 && hour % 12 < 11; s++) {
                    Check.same("seed " + seed + ", hour " + hour + ", sleeper " + s, post.look(s, 4), woken >> s & 1);
                }
            }
        }
    }

    static void withoutASeedItIs0() {
        SleepPost post = Check.of("house a;sleeper x a 0 a;law wake 1;");
        post.hours(1);
        Check.same("0 is below 1", post.look(0, 4), 1);
        Check.same("seed 1 is another", woken(1, "1"), 0);
    }

    static void hoursInOneCallAndOneByOne() {
        String text = ROW + "sleeper x a 0 d;sleeper y d 3 a;sleeper z b 5 c;letter x c;letter y a;letter z d;seed 4711;law wake 20;";
        SleepPost one = Check.of(text);
        SleepPost other = Check.of(text);
        for (int round = 0; round < 3; round++) {
            one.hours(36);
            for (int i = 0; i < 36; i++) {
                other.hours(1);
            }
            Check.same("round " + round, Check.state(one).equals(Check.state(other)), true);
        }
        one.hours(7);
        one.hours(0);
        one.hours(29);
        other.hours(36);
        Check.same("in parts", Check.state(one).equals(Check.state(other)), true);
    }

    // ---- behind HOUR 11 ----

    static void behindHour11AllInHandLiesWhereItsSleeperStands() {
        SleepPost post = Check.of(ROW + "sleeper x a 9 c;letter x d;");
        post.hours(11);
        Check.same("in hand", post.letter(0, 2), 1);
        post.hours(1);
        Check.same("it lies", post.letter(0, 2), 0);
        Check.same("in c", post.letter(0, 1), 2);
        Check.same("x had it", post.letter(0, 3), 0);
    }

    static void behindHour11AllAreInBedsAndNobodyIsWoken() {
        SleepPost post = Check.of(ROW + "sleeper x a 9 c;sleeper y d 0 b;cat c;");
        post.hours(11);
        Check.same("x is away", post.look(0, 0), 2);
        Check.same("y is woken", post.look(1, 4), 1);
        Check.same("hours", post.hours(1), 0);
        Check.same("x", post.look(0, 0), 0);
        Check.same("y", post.look(1, 0), 3);
        Check.same("nobody", post.count(10), 0);
        Check.same("the next night", post.count(7), 1);
    }

    static void inHour11ItselfOneActs() {
        SleepPost post = Check.of(LATE);
        post.hours(11);
        Check.same("still in a", post.look(0, 0), 0);
        post.hours(1);
        Check.same("arrived", post.letter(0, 2), 2);
        Check.same("in bed", post.look(0, 0), 0);
    }

    // ---- Promise 14 ----

    static void hoursOfNoSuchNumber() {
        SleepPost post = Check.of(ROW + "sleeper x a 9 c;letter x d;");
        post.hours(1);
        Check.refused("n", post, new int[] {-1, 37, 38, MIN, MAX, MIN + 1, MAX - 1}, n -> post.hours(n), -1);
    }

    static void hoursOf0() {
        SleepPost post = Check.of(ROW + "sleeper x a 9 c;letter x d;");
        post.hours(5);
        String before = Check.state(post);
        Check.same("the same hour", post.hours(0), 5);
        Check.same("all stays", Check.state(post).equals(before), true);
    }

    static void hoursOf1And36() {
        SleepPost post = Check.of(ROW + "sleeper x a 9 c;");
        Check.same("1", post.hours(1), 1);
        Check.same("36", post.hours(36), 1);
        Check.same("three nights", post.count(7), 3);
        Check.same("in the fourth", post.look(0, 0), 1);
    }

    static void hoursFrom11To0() {
        SleepPost post = Check.of(ROW + "sleeper x a 9 c;");
        Check.same("to 11", post.hours(11), 11);
        Check.same("NIGHT", post.count(7), 0);
        Check.same("to 0", post.hours(1), 0);
        Check.same("NIGHT", post.count(7), 1);
        Check.same("to 0", post.hours(12), 0);
        Check.same("NIGHT", post.count(7), 2);
        Check.same("from 0 to 1", post.hours(13), 1);
        Check.same("NIGHT", post.count(7), 3);
    }

    private static SleepPost lastNight() {
        SleepPost post = Check.of("house a;house b;street a b 1;sleeper x a 9 b;letter x a;");
        for (int i = 0; i < 333; i++) {
            post.hours(36);
        }
        return post;
    }

    static void nightIs999AtMost() {
        SleepPost post = lastNight();
        Check.same("NIGHT", post.count(7), 999);
        Check.refused("hours", post, new int[] {12, 13, 36}, post::hours, -1);
        Check.same("11", post.hours(11), 11);
        Check.refused("hours", post, new int[] {1, 36}, post::hours, -1);
        Check.same("0", post.hours(0), 11);
        Check.same("NIGHT", post.count(7), 999);
    }

    static void theLastNightIsAsAnyOther() {
        SleepPost post = lastNight();
        post.hours(1);
        Check.same("where", post.where(0, 11), 1);
        Check.same("chain goes beyond it", post.chain(0), -2);
        Check.same("chance goes beyond it", post.chance(1, 0, 9), 0);
        Check.same("tried", post.tried(0, 0), 0);
        Check.same("keep", post.keep(), 999);
        Check.same("back", post.back(), 999);
    }

    static void hoursThatWouldGoBeyondTheLastNightFromAhead() {
        SleepPost post = Check.of("house a;");
        for (int i = 0; i < 332; i++) {
            post.hours(36);
        }
        post.hours(35);
        Check.same("NIGHT", post.count(7), 998);
        Check.same("HOUR", post.count(6), 11);
        Check.refused("13", post, () -> post.hours(13), -1);
        Check.same("12", post.hours(12), 11);
        Check.same("NIGHT", post.count(7), 999);
    }

    // ---- Promise 15 ----

    static void whereOfNoSuchSleeper() {
        SleepPost post = Check.of(ROW + "sleeper p a 9 d;sleeper q a 9 d;sleeper r a 9 d;sleeper s a 9 d;sleeper t a 9 b;");
        Check.same("the last", post.where(4, 11), 1);
        for (int sleeper : new int[] {-1, 5, MIN, MAX}) {
            Check.same("where(" + sleeper + ", 0)", post.where(sleeper, 0), -1);
        }
        Check.same("sleeper 1 of one", Check.of("house a;sleeper x a 0 a;").where(1, 0), -1);
    }

    static void whereAtAnHourFromNowTo11() {
        SleepPost post = Check.of(ROW + "sleeper x a 9 d;");
        int[] due = {1, 2, 3, 3, 3, 3, 3, 3, 3, 3, 3, 3};
        for (int now = 0; now < 12; now++) {
            for (int hour = -1; hour <= 12; hour++) {
                Check.same("where " + hour + " at " + now, post.where(0, hour), hour >= now && hour < 12 ? due[hour] : -1);
            }
            post.hours(1);
        }
        Check.same("MIN", post.where(0, MIN), -1);
        Check.same("MAX", post.where(0, MAX), -1);
    }

    static void whereOfOneWhoIsWoken() {
        SleepPost post = Check.of(ROW + "sleeper x a 0 d;cat b;");
        for (int hour = 0; hour < 12; hour++) {
            Check.same("hour " + hour, post.where(0, hour), 1);
        }
        post.hours(3);
        Check.same("woken already", post.where(0, 11), 1);
    }

    // ---- Promise 16 ----

    private static SleepPost fourAndMore(int lying) {
        return Check.of(ROW + "sleeper x a 9 b;sleeper y d 9 d;" + "letter x b;".repeat(lying));
    }

    static void matchOfNoSuchLetter() {
        SleepPost post = fourAndMore(4);
        for (int letter : new int[] {-1, 4, 8, MIN, MAX}) {
            Check.same("match(" + letter + ")", post.match(letter), -1);
        }
        Check.same("of more than four", fourAndMore(5).match(5), -1);
        Check.same("no sleepers", Check.of("house a;").match(0), -1);
    }

    static void matchOfFourAndOfFive() {
        Check.same("one", fourAndMore(1).match(0), 0);
        Check.same("four, the first", fourAndMore(4).match(0), 0);
        Check.same("four, the last", fourAndMore(4).match(3), 0);
        Check.same("five, the first", fourAndMore(5).match(0), -3);
        Check.same("five, the last", fourAndMore(5).match(4), -3);
        Check.same("eight", fourAndMore(8).match(7), -3);
    }

    static void matchOfALetterThatDoesNotLie() {
        SleepPost post = Check.of(ROW + "sleeper x a 9 d;letter x b;letter x d;");
        post.hours(1);
        Check.same("arrived", post.match(0), -2);
        Check.same("in hand", post.match(1), -2);
    }

    static void matchOfOneThatDoesNotLieIsAskedAheadOfFive() {
        SleepPost post = Check.of(ROW + "sleeper x a 9 d;sleeper y d 0 d;bell d 1;letter x b;letter x d;" + "letter y a;".repeat(5));
        post.hours(1);
        Check.same("arrived", post.match(0), -2);
        Check.same("in hand", post.match(1), -2);
        Check.same("one of five that lie", post.match(2), -3);
    }

    static void fourLieThoughThereAreEight() {
        // y is woken in d with four letters, x has four in hand.
        SleepPost post = Check.of(ROW + "sleeper x a 9 b;sleeper y d 0 d;bell d 1;" + "letter x c;".repeat(4) + "letter y a;".repeat(4));
        Check.same("eight lie", post.match(0), -3);
        post.hours(1);
        Check.same("four lie, none comes to a", post.match(4), -2);
        Check.same("four are in hand", post.match(0), -2);
    }

    static void matchIfThereIsNone() {
        Check.same("none", Check.of(ROW + "sleeper x a 9 b;letter x d;").match(0), -2);
        SleepPost post = Check.of(ROW + "sleeper x a 9 b;letter x b;letter x d;");
        Check.same("not all: the one that could", post.match(0), -2);
        Check.same("not all: the other one", post.match(1), -2);
    }

    static void matchIsTheFirstByLettersThenSleepers() {
        // With two in hand one stays: so one letter each, and letter 0 has sleeper 0.
        String text = ABC + "sleeper x a 9 b;sleeper y c 9 b;letter y b;letter y b;law pull 100-far*(mail<2);";
        SleepPost post = Check.of(text);
        Check.same("letter 0", post.match(0), 0);
        Check.same("letter 1", post.match(1), 1);
        // Two beds in one house are one: the first sleeper is meant.
        post = Check.of(AB + "sleeper x b 9 b;sleeper y a 9 a;sleeper z a 9 b;letter x b;");
        Check.same("x has it there already", post.match(0), 0);
    }

    static void matchMayBeTheVeryLast() {
        // Only the last one of five walks to b, at hour 0.
        String text = ABC + "sleeper p c 9 c;sleeper q c 9 c;sleeper r c 9 c;sleeper s c 9 c;sleeper t a 9 b;";
        SleepPost post = Check.of(text.replace("b 1;street b c 1", "b 1") + "letter p b;".repeat(4));
        for (int letter = 0; letter < 4; letter++) {
            Check.same("letter " + letter, post.match(letter), 4);
        }
    }

    static void matchIsOfThoseThatLieAlone() {
        // Letter 0 is in hand and never arrives; letter 1 lies and does.
        SleepPost post = Check.of(ROW + "sleeper x a 9 b;sleeper y d 0 c;letter x d;letter y d;bell c 1;law drop 0;");
        post.hours(1);
        Check.same("in hand", post.match(0), -2);
        Check.same("y is woken in c with letter 1", post.letter(1, 1), 2);
        Check.same("none comes by", post.match(1), -2);
        post = Check.of("house a;house b;house c;street a b 1;sleeper x a 9 a;sleeper y b 9 b;letter x c;letter y a;law drop hour=0 and noise>0;bell b 1;");
        post.hours(1);
        Check.same("in hand", post.letter(0, 2), 1);
        Check.same("it lies", post.letter(1, 2), 0);
        Check.same("by x, who stands in a", post.match(1), 0);
    }

    static void matchLeavesAll() {
        SleepPost post = Check.of(ABC + "sleeper x a 9 b;sleeper y c 9 b;letter y b;letter y b;");
        String before = Check.state(post);
        post.match(0);
        Check.same("all stays", Check.state(post).equals(before), true);
    }

    static void matchByTheEndOfHour11() {
        Check.same("in hour 11", Check.of(LATE).match(0), 0);
        SleepPost post = Check.of(LATE);
        post.hours(11);
        Check.same("in hand at hour 11", post.match(0), -2);
        String later = AB + "house c;street b c 1;sleeper x a 9 c;letter x c;law pull (hour>=N)*(9-far)+(hour<N)*far;";
        Check.same("in hours 10 and 11", Check.of(later.replace("N", "10")).match(0), 0);
        Check.same("one hour too late", Check.of(later.replace("N", "11")).match(0), -2);
    }

    // ---- Promise 17 ----

    static void leadOfNoSuchOnes() {
        SleepPost post = Check.of(EIGHT + "sleeper x a 9 b;sleeper y h 9 b;");
        Check.same("the last ones", post.lead(1, 7, 11), 0);
        for (int wrong : new int[] {-1, 2, 5, MIN, MAX}) {
            Check.same("sleeper " + wrong, post.lead(wrong, 0, 0), -1);
        }
        for (int wrong : new int[] {-1, 8, MIN, MAX}) {
            Check.same("house " + wrong, post.lead(0, wrong, 0), -1);
        }
        for (int wrong : new int[] {-1, 12, MIN, MAX}) {
            Check.same("hour " + wrong, post.lead(0, 0, wrong), -1);
        }
    }

    static void leadAtAnHourFromNowTo11() {
        SleepPost post = Check.of(AB + "sleeper x a 9 a;law pull light*2-far;");
        for (int now = 0; now < 12; now++) {
            for (int hour = -1; hour <= 12; hour++) {
                Check.same("lead at " + hour + " from " + now, post.lead(0, 1, hour), hour >= now && hour < 12 ? 2 : -1);
            }
            post.hours(1);
        }
    }

    static void leadByNone() {
        Check.same("no street", Check.of("house a;house b;sleeper x a 9 a;law pull light;").lead(0, 1, 11), -2);
        Check.same("too far for one hour", Check.of(ABC + "sleeper x a 9 a;law pull light*9-far;").lead(0, 2, 0), -2);
        Check.same("no law asks for light", Check.of(AB + "sleeper x a 9 a;").lead(0, 1, 11), -2);
        SleepPost post = Check.of(AB + "sleeper x a 0 a;bell a 1;law pull light;");
        post.hours(1);
        Check.same("woken", post.lead(0, 1, 11), -2);
    }

    static void leadWithoutMoreLightIs0() {
        Check.same("stays", Check.of(AB + "sleeper x a 9 a;law pull light;").lead(0, 0, 11), 0);
        Check.same("walks by a lamp", Check.of(AB + "sleeper x a 9 a;law pull light;lamp b 0 0;").lead(0, 1, 0), 0);
        SleepPost post = Check.of(AB + "sleeper x a 9 a;law pull light;");
        post.lit(1, true);
        Check.same("lit by call", post.lead(0, 1, 11), 0);
    }

    static void leadHasFewestThenLeast() {
        // Both ways round lead to d, over b or over c; b and d are 10, c and d are 12.
        String ring = "house a;house b;house c;house d;street a b 1;street a c 1;street b d 1;street c d 1;sleeper x a 0 a;";
        Check.same("two, the least", Check.of(ring + "law pull light*3+far*(hour>0)*(hour<2);").lead(0, 3, 1), 10);
        // x walks to where it is dark, if a is lit: a alone is 1; b and c would be 6.
        Check.same("one", Check.of(ring + "law pull light*(0-1);").lead(0, 1, 0), 1);
    }

    static void leadMayNeedAllHousesButOne() {
        // x stays only where it is lit all round, and goes to the first one that is dark.
        String star = EIGHT + "street a b 1;street a c 1;street a d 1;street a e 1;street a f 1;street a g 1;street a h 1;";
        Check.same("all seven, to stay", Check.of(star + "sleeper x a 9 a;law pull (1-light)*way;").lead(0, 0, 0), 254);
        Check.same("six, to go to h", Check.of(star + "sleeper x a 9 a;law pull (1-light)*way;").lead(0, 7, 0), 126);
    }

    static void leadMayNeedAllHouses() {
        // In hour 0 x stays in a and is woken there without light; in hour 1 light alone leads to b.
        SleepPost post = Check.of(AB + "sleeper x a 9 b;law pull (hour>0)*light*(1+(far=0));law wake (1-light)*100;");
        Check.same("a and b", post.lead(0, 1, 1), 3);
        Check.same("none, to be woken in a", post.lead(0, 0, 1), 0);
    }

    static void leadByALawOfWakeOrDropAlone() {
        SleepPost post = Check.of(ABC + "sleeper x a 9 c;law wake light*100;");
        Check.same("to stay in b one must be woken there", post.lead(0, 1, 11), 2);
        post = Check.of("house a;house b;house c;street a b 1;street b c 2;sleeper x a 9 b;letter x c;law pull (mail>0)*(9-far)+(mail=0)*far;law drop light;");
        Check.same("with the letter x stays in b", post.lead(0, 1, 11), 0);
        Check.same("without it x goes to c", post.lead(0, 2, 11), 2);
    }

    static void leadMayNeedTheLastHouse() {
        Check.same("h", Check.of(EIGHT + "street a h 1;sleeper x a 9 a;law pull light;").lead(0, 7, 0), 128);
    }

    static void leadLeavesAll() {
        SleepPost post = Check.of(AB + "sleeper x a 9 a;law pull light;");
        String before = Check.state(post);
        post.lead(0, 1, 5);
        Check.same("all stays", Check.state(post).equals(before), true);
    }

    // ---- Promise 18 ----

    static void chainOfNoSuchLetter() {
        SleepPost post = Check.of(AB + "sleeper x a 9 b;" + "letter x b;".repeat(8));
        Check.same("the last", post.chain(7), 1);
        for (int letter : new int[] {-1, 8, MIN, MAX}) {
            Check.same("chain(" + letter + ")", post.chain(letter), -1);
        }
        Check.same("letter 1 of one", Check.of("house a;sleeper x a 0 a;letter x a;").chain(1), -1);
    }

    static void chainOf0And1() {
        SleepPost post = Check.of(LATE);
        Check.same("in this night's last hour", post.chain(0), 1);
        post.hours(11);
        Check.same("this night is 1", post.chain(0), 1);
        post.hours(1);
        Check.same("it did", post.chain(0), 0);
    }

    static void chainOf2FromTheLastHour() {
        SleepPost post = Check.of(AB + "sleeper x a 9 b;letter x b;law pull (hour<2)*(9-far);law wake 0;");
        post.hours(2);
        Check.same("it did in the first hour", post.chain(0), 0);
        post = Check.of(ABC + "sleeper x a 9 b;sleeper y b 9 c;letter x c;");
        post.hours(11);
        Check.same("this one is 1, the next one 2", post.chain(0), 2);
    }

    static void chainOfALetterThatNeverArrives() {
        Check.same("it never moves", Check.of(AB + "sleeper x a 9 a;letter x b;").chain(0), -2);
        Check.same("it goes to and fro", Check.of("house a;house b;house c;street a b 1;sleeper x a 9 b;sleeper y b 9 a;letter x c;").chain(0), -2);
    }

    /** A text, found by trying many, in which a letter arrives in just the 40th night. */
    private static final String FORTY = "house a;house b;house c;house d;house e;house f;house g;street d e 7;street c b 8;street b e 6;street d g 3;"
        + "street d c 9;street a b 7;street a d 2;street c e 2;street e f 3;street a c 9;"
        + "sleeper p a 0 d;sleeper q b 4 a;sleeper r c 7 b;sleeper s d 4 d;sleeper t e 0 g;"
        + "letter s f;letter r f;letter s g;letter q b;letter p b;letter s g;letter t g;letter s g;"
        + "law pull (hour=0)*((deep*22+mail*4+way*11+way*mail*35+deep*way*25)-(deep*22+mail*4+way*11+way*mail*35+deep*way*25)/43*43)-(hour>0)*way;";

    static void chainOf40() {
        SleepPost post = Check.of(FORTY);
        for (int nights = 40; nights >= 0; nights--) {
            Check.same("chain", post.chain(0), nights);
            post.hours(12);
        }
    }

    static void chainOf41() {
        // A night more: bells wake all in the first hour, and then all letters are laid where they were at first.
        SleepPost post = Check.of(FORTY);
        int[] home = new int[8];
        for (int l = 0; l < 8; l++) {
            home[l] = post.letter(l, 1);
            post.lay(l, 0);
        }
        for (int h = 0; h < 7; h++) post.bell(h, 9);
        post.hours(1);
        for (int h = 0; h < 7; h++) post.bell(h, 0);
        for (int l = 0; l < 8; l++) post.lay(l, home[l]);
        Check.same("not in 40", post.chain(0), -2);
        post.hours(11);
        Check.same("in 40", post.chain(0), 40);
    }

    // ---- Promise 19 ----

    static void meetOfNoSuchOnes() {
        SleepPost post = Check.of("house a;sleeper p a 9 a;sleeper q a 9 a;sleeper r a 9 a;sleeper s a 9 a;sleeper t a 9 a;");
        Check.same("the last", post.meet(4, 3), 4095);
        for (int wrong : new int[] {-1, 5, MIN, MAX}) {
            Check.same("meet(" + wrong + ", 0)", post.meet(wrong, 0), -1);
            Check.same("meet(0, " + wrong + ")", post.meet(0, wrong), -1);
            Check.same("meet(" + wrong + ", " + wrong + ")", post.meet(wrong, wrong), -1);
        }
    }

    static void meetOfAlike() {
        SleepPost post = Check.of("house a;sleeper p a 9 a;sleeper q a 9 a;");
        Check.same("meet(0, 0)", post.meet(0, 0), -1);
        Check.same("meet(1, 1)", post.meet(1, 1), -1);
    }

    static void meetInNoAndInAllHours() {
        SleepPost post = Check.of("house a;house b;sleeper p a 9 a;sleeper q a 9 a;sleeper r b 9 b;");
        Check.same("all", post.meet(0, 1), 4095);
        Check.same("none", post.meet(0, 2), 0);
    }

    static void meetFromNowTo11() {
        SleepPost post = Check.of("house a;sleeper p a 9 a;sleeper q a 9 a;");
        for (int now = 0; now < 12; now++) {
            Check.same("from " + now, post.meet(0, 1), 4095 & -1 << now);
            post.hours(1);
        }
    }

    static void whoPassOnTheStreetDoNotMeet() {
        Check.same("on the way", Check.of(AB + "sleeper x a 9 b;sleeper y b 9 a;").meet(0, 1), 0);
        Check.same("in bed, ahead of hour 0", Check.of(AB + "sleeper x a 9 b;sleeper y a 9 a;").meet(0, 1), 0);
    }
}
