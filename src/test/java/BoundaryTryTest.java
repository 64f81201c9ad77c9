/** Promises 25 to 31: each sentence that names a boundary has a test of its own. */
public final class BoundaryTryTest {
    private static final int MIN = Integer.MIN_VALUE;
    private static final int MAX = Integer.MAX_VALUE;
    /** Four houses in a row, a b c d, with streets of 1, 2, 3. */
    private static final String ROW = "house a;house b;house c;house d;street a b 1;street b c 2;street c d 3;";
    private static final String AB = "house a;house b;street a b 1;";
    private static final String EIGHT = "house a;house b;house c;house d;house e;house f;house g;house h;";
    private static final String LATE = AB + "sleeper x a 9 b;letter x b;law pull (hour=11)*(9-far)+(hour<11)*far;";

    public static void main(String[] args) {
        Check.runAll(BoundaryTryTest.class);
    }

    private static int number(long[] state) {
        state[0] = (state[0] * 1103515245L + 12345L) % (1L << 31);
        return (int) (state[0] / 65536);
    }

    private static String houses(int n) {
        return EIGHT.substring(0, 8 * n);
    }

    // ---- Promises 25 and 26 ----

    static void restsOfNoSuchLoud() {
        SleepPost post = Check.of(AB + "sleeper x a 0 a;");
        for (int loud : new int[] {0, -1, 10, MIN, MAX}) {
            Check.same("rests(" + loud + ", 1)", post.rests(loud, 1), -1);
            Check.same("rests(1, " + loud + ")", post.rests(1, loud), -1);
            Check.same("rest(" + loud + ", 1, 0)", post.rest(loud, 1, 0), -1);
            Check.same("rest(1, " + loud + ", 0)", post.rest(1, loud, 0), -1);
        }
        for (int loud : new int[] {1, 9}) {
            Check.same("rests(" + loud + ", " + loud + ")", post.rests(loud, loud) > 0, true);
            Check.same("rest(" + loud + ", " + loud + ", 0)", post.rest(loud, loud, 0) >= 0, true);
        }
    }

    static void restsWithoutHouses() {
        SleepPost post = new SleepPost();
        Check.same("rests", post.rests(1, 1), -1);
        Check.same("rest", post.rest(1, 1, 0), -1);
        Check.tell(post, "seed 1;");
        Check.same("rests", post.rests(9, 9), -1);
        Check.same("rest", post.rest(9, 9, 0), -1);
    }

    static void restsOfOneHouse() {
        SleepPost post = Check.of("house a;");
        Check.same("one", post.rests(1, 9), 1);
        Check.same("it", post.rest(1, 9, 0), 0);
        Check.same("no second one", post.rest(1, 9, 1), -2);
    }

    static void restsOfEightHouses() {
        SleepPost post = Check.of(EIGHT);
        Check.same("without sleepers all are", post.rests(1, 1), 64);
        Check.same("the first", post.rest(1, 1, 0), 0);
        Check.same("the eighth", post.rest(1, 1, 7), 7);
        Check.same("the ninth", post.rest(1, 1, 8), 10);
        Check.same("the last", post.rest(1, 1, 63), 77);
        Check.same("no more", post.rest(1, 1, 64), -2);
    }

    static void theKThRest() {
        SleepPost post = Check.of(AB + "sleeper x a 9 a;");
        // x stays in a: neither has more elsewhere than in a, where both have half of one, cut: 0.
        Check.same("a a: none has more elsewhere", post.rests(1, 1), 3);
        Check.same("a a", post.rest(1, 1, 0), 0);
        Check.same("a b", post.rest(1, 1, 1), 1);
        Check.same("b a", post.rest(1, 1, 2), 10);
        Check.same("no fourth", post.rest(1, 1, 3), -2);
        Check.same("MAX", post.rest(1, 1, MAX), -2);
        Check.same("below 0", post.rest(1, 1, -1), -1);
        Check.same("below 0", post.rest(1, 1, MIN), -1);
    }

    static void ofOneHouseBothHaveHalfCut() {
        // Two of four stand in a, one in b: both in a have 1, and so has one alone in b.
        SleepPost post = Check.of(houses(3) + "sleeper p a 9 a;sleeper q a 9 a;sleeper r b 9 b;");
        Check.same("2 are 1 each", post.rests(1, 1), 3);
        Check.same("a a", post.rest(1, 1, 0), 0);
        // Three in a are 1 each, cut; two in b are more.
        post = Check.of(houses(3) + "sleeper p a 9 a;sleeper q a 9 a;sleeper r a 9 a;sleeper s b 9 b;sleeper t b 9 b;");
        Check.same("3 are 1 each", post.rests(1, 1), 2);
        Check.same("a b", post.rest(1, 1, 0), 1);
        Check.same("b a", post.rest(1, 1, 1), 10);
        // Four in a are 2 each; one in b is less.
        post = Check.of(houses(2) + "sleeper p a 9 a;sleeper q a 9 a;sleeper r a 9 a;sleeper s a 9 a;sleeper t b 9 b;");
        Check.same("4 are 2 each", post.rests(1, 1), 1);
        Check.same("a a", post.rest(1, 1, 0), 0);
    }

    static void aSingerWhoIsLoudEnoughWakes() {
        // x walks a b c and is woken in b, if it is louder than 8 there: one singer is, or both in one house.
        String text = houses(3) + "street a b 1;street b c 1;sleeper x a 8 c;";
        Check.same("9 wakes", Check.of(text).rest(9, 1, 0), 10);
        Check.same("8 does not", Check.of(text).rest(8, 1, 0), 2);
        Check.same("8 does with a bell of 1", Check.of(text + "bell b 1;").rest(8, 1, 0), 10);
        Check.same("8 does with a singer of 1 who is there", Check.of(text + "corner b 1;").rest(8, 1, 0), 10);
        Check.same("6 does with a cat", Check.of(text + "cat b;").rest(6, 1, 0), 10);
        Check.same("5 does not with a cat", Check.of(text + "cat b;").rest(5, 1, 0), 2);
        SleepPost post = Check.of(text);
        post.bell(1, 1);
        Check.same("8 does with a bell by call", post.rest(8, 1, 0), 10);
    }

    static void restsAreBehindHour11() {
        // x goes to b in hour 11 alone: there both singers rest.
        SleepPost post = Check.of(LATE);
        Check.same("the first one's house", post.rests(1, 1), 3);
        Check.same("a b", post.rest(1, 1, 0), 1);
        Check.same("b a", post.rest(1, 1, 1), 10);
        Check.same("b b", post.rest(1, 1, 2), 11);
    }

    static void restsAreOfTonightFromNow() {
        SleepPost post = Check.of(AB + "sleeper x a 0 b;sleeper y b 9 b;sleeper z b 9 b;");
        post.hours(11);
        Check.same("behind hour 11", post.rests(1, 1) > 0, true);
        String before = Check.state(post);
        post.rest(1, 1, 0);
        Check.same("all stays", Check.state(post).equals(before), true);
    }

    // ---- Promise 27 ----

    static void broughtToNoSuchHouse() {
        SleepPost post = Check.of(EIGHT + "sleeper x h 9 h;");
        Check.same("the last", post.brought(7), 1);
        for (int house : new int[] {-1, 8, MIN, MAX}) {
            Check.same("brought(" + house + ")", post.brought(house), -1);
        }
        Check.same("house 1 of one", Check.of("house a;").brought(1), -1);
    }

    static void broughtByNoneAndByAll() {
        SleepPost post = Check.of(AB + "sleeper p a 9 b;sleeper q a 9 b;sleeper r a 9 b;sleeper s a 9 b;sleeper t b 9 b;");
        Check.same("none stands in a behind an hour", post.brought(0), 0);
        Check.same("all", post.brought(1), 31);
        Check.same("without sleepers", Check.of("house a;").brought(0), 0);
    }

    static void broughtBehindTheFirstAndTheLastHour() {
        SleepPost post = Check.of(LATE);
        Check.same("behind hour 11", post.brought(1), 1);
        post.hours(11);
        Check.same("not from now on", post.brought(0), 0);
        Check.same("behind hour 11", post.brought(1), 1);
        post = Check.of(AB + "sleeper x a 9 b;law pull (hour=0)*(9-far)+(hour>0)*far;");
        Check.same("behind hour 0", post.brought(1), 1);
        post.hours(1);
        Check.same("x stands there now, but not behind an hour to come", post.brought(1), 0);
    }

    // ---- Promises 28 and 29 ----

    static void costOfBitsOfNoSleepers() {
        SleepPost post = Check.of(AB + "sleeper x a 9 b;sleeper y a 9 b;letter x b;");
        for (int bits : new int[] {4, 5, 8, 31, 32, 1 << 30, MAX}) {
            Check.same("cost(" + bits + ")", post.cost(bits), -1);
        }
        SleepPost five = Check.of("house a;sleeper p a 9 a;sleeper q a 9 a;sleeper r a 9 a;sleeper s a 9 a;sleeper t a 9 a;letter t a;");
        Check.same("all five", five.cost(31), 1);
        Check.same("a sixth", five.cost(32), -1);
    }

    static void costBelow0() {
        SleepPost post = Check.of(AB + "sleeper x a 9 b;letter x b;");
        for (int bits : new int[] {-1, -2, MIN, MIN + 1}) {
            Check.same("cost(" + bits + ")", post.cost(bits), -1);
        }
    }

    static void costOfNobodyIs0() {
        Check.same("no sleepers", new SleepPost().cost(0), 0);
        Check.same("one walks", Check.of(AB + "sleeper x a 9 b;letter x b;").cost(0), 0);
    }

    static void costIs0AtLeast() {
        // y takes x's letter away; without y more arrive.
        SleepPost post = Check.of(ROW + "sleeper y a 9 b;sleeper x a 9 c;letter x c;");
        Check.same("as it goes none arrives", post.tried(0, 0), 0);
        Check.same("without y one does", post.cost(1), 0);
        Check.same("without x", post.cost(2), 0);
    }

    static void costOfOneWhoHasLettersInHand() {
        SleepPost post = Check.of(ROW + "sleeper x a 9 d;letter x c;letter x d;");
        post.hours(1);
        Check.same("both stay in hand", post.cost(1), 2);
        post.hours(1);
        Check.same("one arrived already", post.cost(1), 1);
        post.hours(1);
        Check.same("both did", post.cost(1), 0);
    }

    static void whoDoesNotWalkTakesAndLeavesNothing() {
        // y stays in b with the letter by the bed; x's letter for b isn't taken by y either.
        SleepPost post = Check.of(AB + "sleeper x a 9 a;sleeper y b 9 b;letter y b;letter x a;");
        Check.same("a letter for the house where one stays", post.cost(2), 1);
        Check.same("both", post.cost(3), 2);
    }

    static void costByTheEndOfHour11() {
        Check.same("in hour 11", Check.of(LATE).cost(1), 1);
        SleepPost post = Check.of(LATE);
        post.hours(11);
        Check.same("from hour 11", post.cost(1), 1);
    }

    static void needOfNobody() {
        Check.same("no sleepers", new SleepPost().need(), 0);
        Check.same("no letters", Check.of(AB + "sleeper x a 9 b;").need(), 0);
        Check.same("none arrives", Check.of(AB + "sleeper x a 9 a;letter x b;").need(), 0);
        SleepPost post = Check.of(AB + "sleeper x a 9 b;letter x b;");
        post.hours(1);
        Check.same("all arrived", post.need(), 0);
    }

    static void needOfAll() {
        Check.same("one", Check.of(AB + "sleeper x a 9 b;letter x b;").need(), 1);
        Check.same("five", Check.of(EIGHT + "sleeper p a 9 a;sleeper q b 9 b;sleeper r c 9 c;sleeper s d 9 d;sleeper t e 9 e;"
            + "letter p a;letter q b;letter r c;letter s d;letter t e;").need(), 31);
    }

    static void needHasFewestThenLeast() {
        Check.same("x or y: the least", Check.of(AB + "sleeper x a 9 b;sleeper y a 9 b;letter x b;").need(), 1);
        Check.same("y alone does", Check.of(AB + "sleeper x a 9 a;sleeper y a 9 b;letter x b;").need(), 0);
        // x takes it first and brings it nowhere; so as it goes none arrives, and nobody must walk.
        SleepPost post = Check.of(ROW + "sleeper x a 9 b;sleeper y b 9 c;sleeper z a 9 c;letter x b;letter z c;");
        Check.same("x takes both; z alone would bring one, too", post.need(), 1);
    }

    static void needMayBringMoreThanAll() {
        // y takes both letters of the bed to b; x alone would bring two, z alone one, as if all did.
        SleepPost post = Check.of(ROW + "sleeper y a 9 b;sleeper x a 9 d;sleeper z d 9 d;letter x c;letter x d;letter z d;");
        Check.same("all", post.tried(0, 0), 1);
        Check.same("x, who brings two", post.need(), 2);
    }

    static void needAtLeastAsMany() {
        // With y none arrives: x alone brings one, more than as if all did.
        Check.same("none", Check.of(ROW + "sleeper y a 9 b;sleeper x a 9 c;letter x c;").need(), 0);
        // As it goes one arrives (z's); none of x and y must walk.
        Check.same("z", Check.of(ROW + "sleeper y a 9 b;sleeper x a 9 c;sleeper z d 9 d;letter x c;letter z d;").need(), 2);
    }

    // ---- Promise 30 ----

    static void chanceOfNoSuchSeed() {
        SleepPost post = Check.of(LATE);
        for (int seed : new int[] {-1, MIN}) {
            Check.same("chance(" + seed + ", 0, 1)", post.chance(seed, 0, 1), -1);
        }
        Check.same("0", post.chance(0, 0, 1), 10);
        Check.same("2147483647", post.chance(MAX, 0, 1), 10);
    }

    static void chanceOfNoSuchLetter() {
        SleepPost post = Check.of(AB + "sleeper x a 9 b;" + "letter x b;".repeat(8));
        Check.same("the last", post.chance(1, 7, 1), 10);
        for (int letter : new int[] {-1, 8, MIN, MAX}) {
            Check.same("chance(1, " + letter + ", 1)", post.chance(1, letter, 1), -1);
        }
    }

    static void chanceOfNoSuchNumberOfNights() {
        SleepPost post = Check.of(LATE);
        for (int n : new int[] {0, -1, 10, MIN, MAX}) {
            Check.same("chance(1, 0, " + n + ")", post.chance(1, 0, n), -1);
        }
        Check.same("1", post.chance(1, 0, 1), 10);
        Check.same("9", post.chance(1, 0, 9), 10);
    }

    /** x wakes in a in each hour with a number below 60, and else walks to b; so each night takes numbers as told. */
    private static int luck(long seed, int nights, boolean firstNightDealt, boolean[] lamp) {
        long[] state = {seed};
        int lucky = 0;
        for (int time = 0; time < 10; time++) {
            boolean arrived = false;
            for (int night = 0; night < nights; night++) {
                boolean moon = lamp[0];
                if (night > 0 || firstNightDealt) {
                    int dealt = number(state) % 3;
                    moon |= dealt == 0;
                    if (dealt == 1) {
                        number(state);
                    }
                }
                arrived |= moon;
            }
            lucky += arrived ? 1 : 0;
        }
        return lucky;
    }

    private static final String MOONLIT = houses(2) + "street a b 1;sleeper x a 9 a;letter x b;law pull light*far*3-far;";

    static void chanceOf1To9Nights() {
        SleepPost post = Check.of(MOONLIT);
        for (int n = 1; n <= 9; n++) {
            for (int seed : new int[] {0, 1, 77, 65536, 1 << 30, MAX - 1, MAX}) {
                Check.same("seed " + seed + ", nights " + n, post.chance(seed, 0, n), luck(seed, n, true, new boolean[1]));
            }
        }
    }

    static void atHour0AloneTheNumberOfNightsByChance() {
        SleepPost post = Check.of(MOONLIT);
        for (int hour = 0; hour < 12; hour++) {
            for (int n : new int[] {1, 2, 3, 9}) {
                Check.same("hour " + hour + ", nights " + n, post.chance(99, 0, n), luck(99, n, hour == 0, new boolean[1]));
            }
            post.hours(1);
        }
    }

    static void aMoonIsOverInTheNextNight() {
        // x must walk two streets, each in another night with light; a letter half way is put back by nobody.
        SleepPost post = Check.of(houses(2) + "street a b 1;sleeper x a 9 a;letter x b;law pull (hour=0)*way*0+light*far*3-far;");
        Check.same("one night", post.chance(5, 0, 1), luck(5, 1, true, new boolean[1]));
        // What is lit by call stays lit behind a MOON.
        post.lit(1, true);
        Check.same("lit by call", post.chance(5, 0, 3), luck(5, 3, true, new boolean[] {true}));
    }

    static void aNightBehindAMoonMayBeDark() {
        // x walks where it is dark alone.
        SleepPost post = Check.of(AB + "sleeper x a 9 a;letter x b;law pull (1-light)*far*3-far;");
        for (int n = 1; n <= 4; n++) {
            long[] state = {31};
            int lucky = 0;
            for (int time = 0; time < 10; time++) {
                boolean arrived = false;
                for (int night = 0; night < n; night++) {
                    int dealt = number(state) % 3;
                    arrived |= dealt != 0;
                    if (dealt == 1) {
                        number(state);
                    }
                }
                lucky += arrived ? 1 : 0;
            }
            Check.same("nights " + n, post.chance(31, 0, n), lucky);
        }
    }

    static void aNightBehindACatMayBeWithoutOne() {
        // A cat in b wakes x on the way to c.
        String text = houses(3) + "street a b 1;street b c 1;sleeper x a 2 c;letter x c;";
        for (int n = 1; n <= 4; n++) {
            long[] state = {8};
            int lucky = 0;
            for (int time = 0; time < 10; time++) {
                boolean arrived = false;
                boolean inB = false;
                for (int night = 0; night < n; night++) {
                    boolean cat = number(state) % 3 == 1 && number(state) % 3 == 1;
                    arrived |= !cat && !inB;
                    inB |= cat && !arrived;
                }
                lucky += arrived ? 1 : 0;
            }
            Check.same("nights " + n, Check.of(text).chance(8, 0, n), lucky);
        }
    }

    static void aMoonLightsTheFirstAndTheLastHouse() {
        for (int house = 0; house < 8; house++) {
            // x walks from one house to another if it is lit: to h from a, from h to the others.
            char from = house == 7 ? 'a' : 'h';
            char to = (char) ('a' + house);
            SleepPost post = Check.of(EIGHT + "street " + from + " " + to + " 1;sleeper x " + from + " 9 " + from + ";letter x " + to + ";law pull light*far*3-far;");
            Check.same("to " + to, post.chance(5, 0, 1), luck(5, 1, true, new boolean[1]));
            Check.same("all lit, to " + to, post.tried(5, 0), 1);
            Check.same("as it goes", post.tried(0, 0), 0);
        }
    }

    static void aCatMoreInAHouseWithACat() {
        // noise 3 does not wake x, but 6 does: so the cat of chance in b, of three houses, keeps x from c.
        String text = houses(3) + "street a b 1;street b c 1;sleeper x a 3 c;letter x c;cat b;";
        for (int seed : new int[] {0, 5, 77, MAX}) {
            long[] state = {seed};
            int cats = 0;
            for (int i = 0; i < 10; i++) {
                if (number(state) % 3 == 1) {
                    cats += number(state) % 3 == 1 ? 1 : 0;
                }
            }
            Check.same("seed " + seed, Check.of(text).chance(seed, 0, 1), 10 - cats);
        }
    }

    static void aCatIsOneOfAllHouses() {
        // Of eight houses the last one: only there the cat keeps x awake, so that the letter for h stays in a night's hand.
        String text = EIGHT + "street a h 1;street h b 1;sleeper x a 2 b;letter x b;";
        for (int seed : new int[] {0, 3, 11, 2000000000}) {
            long[] state = {seed};
            int cats = 0;
            for (int i = 0; i < 10; i++) {
                if (number(state) % 3 == 1) {
                    cats += number(state) % 8 == 7 ? 1 : 0;
                }
            }
            Check.same("seed " + seed, Check.of(text).chance(seed, 0, 1), 10 - cats);
        }
    }

    static void chanceInTheLastHourOfTheNight() {
        SleepPost post = Check.of(LATE);
        Check.same("in hour 11", post.chance(3, 0, 1), 10);
        post.hours(11);
        Check.same("from hour 11", post.chance(3, 0, 1), 10);
    }

    static void chanceOfALetterThatArrived() {
        SleepPost post = Check.of(AB + "sleeper x a 9 b;letter x b;");
        post.hours(1);
        Check.same("it did", post.chance(1, 0, 1), 10);
        Check.same("it did", post.chance(1, 0, 9), 10);
    }

    static void chanceDoesNotHangOnTheNumbersOfNow() {
        SleepPost post = Check.of(MOONLIT + "law wake 20;seed 9;");
        int due = post.chance(7, 0, 4);
        post.hours(24);
        if (post.letter(0, 2) == 0) {
            Check.same("other numbers went by", post.chance(7, 0, 4), due);
        }
        Check.same("asked twice", post.chance(7, 0, 4), post.chance(7, 0, 4));
    }

    static void chanceLeavesAll() {
        SleepPost post = Check.of(MOONLIT + "law wake 20;seed 9;");
        post.hours(5);
        String before = Check.state(post);
        post.chance(1, 0, 9);
        Check.same("all stays", Check.state(post).equals(before), true);
    }

    // ---- Promise 31 ----

    static void triedOfNoSuchWhat() {
        SleepPost post = Check.of(ROW + "sleeper x a 9 d;letter x d;");
        for (int what : new int[] {-1, 8, 9, MIN, MAX}) {
            Check.same("tried(" + what + ", 0)", post.tried(what, 0), -1);
        }
        for (int what = 0; what < 7; what++) {
            Check.same("tried(" + what + ", 0)", post.tried(what, 0), 1);
        }
        Check.same("tried(7, 0)", post.tried(7, 0), 0);
    }

    static void triedWithAnIOfNoneButSleepersAndStreets() {
        SleepPost post = Check.of(ROW + "sleeper x a 9 d;sleeper y a 9 d;letter x d;");
        for (int what = 0; what < 6; what++) {
            for (int i : new int[] {-1, 1, 2, MIN, MAX}) {
                Check.same("tried(" + what + ", " + i + ")", post.tried(what, i), -1);
            }
        }
    }

    static void triedWithNoSuchSleeper() {
        SleepPost post = Check.of(ROW + "sleeper p a 9 d;sleeper q a 9 d;sleeper r a 9 d;sleeper s a 9 d;sleeper t b 0 d;letter t d;cat c;");
        Check.same("the last", post.tried(6, 4), 1);
        Check.same("another", post.tried(6, 3), 0);
        for (int i : new int[] {-1, 5, 6, MIN, MAX}) {
            Check.same("tried(6, " + i + ")", post.tried(6, i), -1);
        }
        Check.same("no sleepers", Check.of("house a;").tried(6, 0), -1);
    }

    static void triedWithNoSuchStreet() {
        SleepPost post = Check.of(ROW + "sleeper x a 9 d;letter x d;");
        Check.same("the last", post.tried(7, 2), 0);
        for (int i : new int[] {-1, 3, 12, MIN, MAX}) {
            Check.same("tried(7, " + i + ")", post.tried(7, i), -1);
        }
        Check.same("no streets", Check.of("house a;").tried(7, 0), -1);
        String twelve = EIGHT + "street a b 1;street a c 1;street a d 1;street a e 1;street a f 1;street a g 1;"
            + "street b c 1;street b d 1;street b e 1;street b f 1;street b g 1;street g h 1;sleeper x g 9 h;letter x h;";
        Check.same("the twelfth", Check.of(twelve).tried(7, 11), 0);
        Check.same("the eleventh", Check.of(twelve).tried(7, 10), 1);
        Check.same("a thirteenth", Check.of(twelve).tried(7, 12), -1);
    }

    static void triedCountsUpToAllEight() {
        SleepPost post = Check.of(AB + "sleeper x a 9 b;" + "letter x b;".repeat(8));
        Check.same("all", post.tried(0, 0), 8);
        Check.same("none", post.tried(7, 0), 0);
        post.hours(12);
        Check.same("those that did", post.tried(7, 0), 8);
    }

    static void triedByTheEndOfHour11() {
        for (int what = 0; what < 7; what++) {
            Check.same("tried(" + what + ", 0)", Check.of(LATE).tried(what, 0), 1);
        }
        SleepPost post = Check.of(LATE);
        post.hours(11);
        Check.same("from hour 11", post.tried(0, 0), 1);
        Check.same("without the street", post.tried(7, 0), 0);
    }

    static void triedWithDeep9() {
        String row = ROW + "sleeper x a 0 d;letter x d;";
        Check.same("noise 9", Check.of(row + "corner b 9;").tried(6, 0), 1);
        Check.same("noise 10", Check.of(row + "corner b 9;bell b 1;").tried(6, 0), 0);
        Check.same("deep 9 already", Check.of(row.replace("x a 0", "x a 9")).tried(6, 0), 1);
        Check.same("a law of deep", Check.of(row + "law wake deep*10;").tried(6, 0), 0);
    }

    static void triedWithoutCatsBellsSingers() {
        String row = ROW + "sleeper x a 2 d;letter x d;";
        String[] louds = {"cat b;", "bell b 3;", "corner b 3;"};
        for (int loud = 0; loud < 3; loud++) {
            for (int what = 1; what <= 3; what++) {
                Check.same(louds[loud] + " tried(" + what + ", 0)", Check.of(row + louds[loud]).tried(what, 0), what == loud + 1 ? 1 : 0);
            }
        }
        SleepPost post = Check.of(row);
        post.bell(1, 9);
        Check.same("a bell by call", post.tried(0, 0), 0);
        Check.same("no bells, by call too", post.tried(2, 0), 1);
    }

    static void triedWithoutThemInTheFirstAndTheLastHouse() {
        for (char h : new char[] {'a', 'h'}) {
            // x passes the house on the way from its bed to its dream.
            char bed = h == 'a' ? 'h' : 'a';
            String row = EIGHT + "street b " + h + " 1;street " + h + " c 1;sleeper x b 2 c;letter x c;";
            Check.same("as it goes", Check.of(row).tried(0, 0), 1);
            Check.same("a cat", Check.of(row + "cat " + h + ";").tried(0, 0), 0);
            Check.same("no cats", Check.of(row + "cat " + h + ";cat " + bed + ";").tried(1, 0), 1);
            Check.same("no bells", Check.of(row + "bell " + h + " 3;").tried(2, 0), 1);
            Check.same("no singers", Check.of(row + "corner " + h + " 3;").tried(3, 0), 1);
        }
    }

    static void aTryIsOverBehindIt() {
        SleepPost post = Check.of(AB + "sleeper x a 2 a;letter x b;law pull light*2-far;lamp b 0 11;cat b;");
        for (int what = 0; what <= 7; what++) {
            post.tried(what, 0);
            Check.same("light behind tried(" + what + ", 0)", post.at(1, 0, 0), 1);
            Check.same("noise", post.at(1, 0, 1), 3);
            Check.same("far", post.far(0, 1), 1);
            Check.same("where", post.where(0, 0), 1);
            Check.same("as it goes", post.tried(0, 0), 1);
            Check.same("pull", post.law(0, 0, 1), 1);
        }
    }

    static void triedAllDarkAndAllLit() {
        SleepPost post = Check.of(AB + "sleeper x a 9 a;letter x b;law pull light*2-far;lamp b 0 11;");
        Check.same("as it goes", post.tried(0, 0), 1);
        Check.same("dark", post.tried(4, 0), 0);
        Check.same("lit: x stays", post.tried(5, 0), 0);
        post = Check.of(AB + "sleeper x a 9 a;letter x b;law pull light*2-far;");
        post.lit(1, true);
        Check.same("lit by call", post.tried(0, 0), 1);
        Check.same("dark though lit by call", post.tried(4, 0), 0);
        post = Check.of(AB + "sleeper x a 9 a;letter x b;law pull light*far;");
        Check.same("lit", post.tried(5, 0), 1);
        Check.same("as it goes", post.tried(0, 0), 0);
    }

    static void triedWithoutAStreetFarIsAnother() {
        // Without the street a d the way to d is over b and c; x goes by FAR and comes to d, three hours later.
        SleepPost post = Check.of(ROW + "street a d 1;sleeper x a 9 d;letter x d;");
        Check.same("another way", post.tried(7, 3), 1);
        // In hours 0 and 1 alone one walks: so it is too late for the long way.
        post = Check.of(ROW + "street a d 1;sleeper x a 9 d;letter x d;law pull (hour<2)*(100-far);");
        Check.same("the short way", post.tried(0, 0), 1);
        Check.same("the long way", post.tried(7, 3), 0);
    }

    static void triedLeavesAll() {
        SleepPost post = Check.of(ROW + "sleeper x a 2 d;letter x d;cat c;bell b 1;corner c 1;lamp b 0 3;");
        String before = Check.state(post);
        for (int what = 0; what <= 7; what++) {
            post.tried(what, 0);
        }
        Check.same("all stays", Check.state(post).equals(before), true);
        Check.same("far stays", post.far(0, 3), 6);
        Check.same("as it goes", post.tried(0, 0), 0);
    }
}
