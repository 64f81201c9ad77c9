/** SIGHTS and promises 20 to 24: each sentence that names a boundary has a test of its own. */
public final class BoundarySightTest {
    private static final int MIN = Integer.MIN_VALUE;
    private static final int MAX = Integer.MAX_VALUE;
    /** Four houses in a row, a b c d, with streets of 1, 2, 3. */
    private static final String ROW = "house a;house b;house c;house d;street a b 1;street b c 2;street c d 3;";
    private static final String FULL = "house a;house b;house c;house d;house e;house f;house g;house h;"
        + "sleeper p a 9 a;sleeper q a 9 a;sleeper r a 9 a;sleeper s a 9 a;sleeper t a 9 h;";

    public static void main(String[] args) {
        Check.runAll(BoundarySightTest.class);
    }

    // ---- Promise 20 ----

    static void sightAtNoSuchHour() {
        SleepPost post = Check.of(FULL);
        Check.refused("hour", post, new int[] {-1, 12, 13, MIN, MAX}, hour -> post.sight(hour, 0, 0), -1);
        Check.same("hour 0", post.sight(0, 0, 0), 0);
        Check.same("hour 11", post.sight(11, 0, 0), 1);
    }

    static void sightOfNoSuchSleeper() {
        SleepPost post = Check.of(FULL);
        Check.refused("sleeper", post, new int[] {-1, 5, MIN, MAX}, sleeper -> post.sight(0, sleeper, 0), -1);
        Check.same("the last", post.sight(0, 4, 0), 0);
    }

    static void sightInNoSuchHouse() {
        SleepPost post = Check.of(FULL);
        Check.refused("house", post, new int[] {-1, 8, MIN, MAX}, house -> post.sight(0, 0, house), -1);
        Check.same("the last", post.sight(0, 0, 7), 0);
    }

    static void twentyFourSights() {
        SleepPost post = Check.of(FULL);
        for (int i = 0; i < 24; i++) {
            Check.same("its number", post.sight(i % 12, i % 5, 0), i);
        }
        Check.same("count", post.count(12), 24);
        Check.refused("a 25th", post, () -> post.sight(0, 0, 0), -1);
        Check.refused("a strike as a 25th", post, () -> post.strike(23), -1);
    }

    static void sightsDoNotHangOnTheHourOfNow() {
        SleepPost post = Check.of(ROW + "sleeper x a 9 d;");
        post.hours(30);
        Check.same("an hour that went by", post.sight(0, 0, 1), 0);
        Check.same("of the first night", post.dreamt(0), 14);
    }

    static void aSightThatCannotBeIsOne() {
        SleepPost post = Check.of(ROW + "sleeper x a 9 d;");
        Check.same("three streets away", post.sight(0, 0, 3), 0);
        Check.same("nothing is dreamt", post.dreamt(0), 0);
    }

    // ---- Promise 21 ----

    static void strikeOfNoSuchSight() {
        SleepPost post = Check.of(FULL);
        Check.refused("none is there", post, () -> post.strike(0), -1);
        post.sight(0, 0, 0);
        post.sight(1, 0, 0);
        Check.refused("sight", post, new int[] {-1, 2, 24, MIN, MAX}, sight -> post.strike(sight), -1);
        Check.same("the last one", post.strike(1), 2);
        Check.same("that strike", post.strike(2), 3);
    }

    static void twentyFourWithStrikes() {
        SleepPost post = Check.of(FULL);
        post.sight(0, 0, 0);
        for (int i = 1; i < 24; i++) {
            Check.same("its number", post.strike(i - 1), i);
        }
        Check.same("count", post.count(12), 24);
        Check.refused("a strike as a 25th", post, () -> post.strike(0), -1);
        Check.refused("a 25th", post, () -> post.sight(0, 0, 0), -1);
        Check.same("struck 23 times in a row: the first is struck", post.dreamt(0), 255);
    }

    static void aSightMayBeStruckTwice() {
        SleepPost post = Check.of(ROW + "sleeper x a 9 d;");
        post.sight(11, 0, 3);
        post.strike(0);
        post.strike(0);
        Check.same("struck", post.dreamt(0), 15);
        post.strike(2);
        Check.same("still struck by the other one", post.dreamt(0), 15);
        post.strike(1);
        Check.same("no more", post.dreamt(0), 8);
    }

    static void strikesAreAskedFromTheLastOneOn() {
        SleepPost post = Check.of(ROW + "sleeper x a 9 d;");
        post.sight(11, 0, 3);
        int[] due = {15, 8, 15, 8, 15};
        for (int i = 0; i < 5; i++) {
            post.strike(i);
            Check.same(i + 1 + " strikes in a row", post.dreamt(0), due[i]);
        }
        for (int n = 5; n >= 1; n--) {
            post.known(n);
            Check.same("known by " + n, post.dreamt(0), n % 2 == 1 ? 8 : 15);
        }
    }

    static void aStrikeOfOneSleepersSightLeavesTheOthers() {
        SleepPost post = Check.of(ROW + "sleeper x a 9 d;sleeper y a 9 d;");
        post.sight(11, 0, 3);
        post.sight(11, 1, 2);
        post.strike(1);
        Check.same("x", post.dreamt(0), 8);
        Check.same("y", post.dreamt(1), 15);
    }

    // ---- Promise 22 ----

    static void knownByNoSuchN() {
        SleepPost post = Check.of(FULL);
        post.sight(0, 0, 0);
        post.sight(0, 0, 0);
        post.known(1);
        Check.refused("n", post, new int[] {-2, 3, 24, MIN, MAX}, n -> post.known(n) ? 1 : 0, 0);
        Check.same("by 1 as before", post.count(13), 1);
    }

    static void knownBy0AndByAsManyAsThereAre() {
        SleepPost post = Check.of(ROW + "sleeper x a 9 d;");
        Check.same("0 of none", post.known(0), true);
        post.sight(11, 0, 3);
        Check.same("0 stays 0", post.dreamt(0), 15);
        Check.same("0 stays 0", post.count(13), 0);
        Check.same("1 of one", post.known(1), true);
        Check.same("d", post.dreamt(0), 8);
        Check.same("2 of one", post.known(2), false);
        Check.same("d", post.dreamt(0), 8);
        Check.same("0 of one", post.known(0), true);
        Check.same("all", post.dreamt(0), 15);
    }

    static void knownByAllWithThoseToCome() {
        SleepPost post = Check.of(ROW + "sleeper x a 9 d;");
        post.sight(0, 0, 1);
        Check.same("1", post.known(1), true);
        post.sight(11, 0, 3);
        Check.same("the second one is not known", post.dreamt(0), 14);
        Check.same("-1", post.known(-1), true);
        Check.same("it is", post.dreamt(0), 8);
        post.strike(1);
        Check.same("one to come is known, too", post.dreamt(0), 14);
        Check.same("count", post.count(13), 3);
    }

    static void knownByAllTwentyFour() {
        SleepPost post = Check.of(FULL);
        for (int i = 0; i < 24; i++) {
            post.sight(11, 4, 0);
        }
        Check.same("24", post.known(24), true);
        Check.same("25", post.known(25), false);
        Check.same("count", post.count(13), 24);
        Check.same("23", post.known(23), true);
        Check.same("count", post.count(13), 23);
    }

    static void theLastOfTwentyFourCounts() {
        SleepPost post = Check.of(ROW + "sleeper x a 9 d;");
        for (int i = 0; i < 23; i++) {
            post.sight(0, 0, 1);
        }
        post.sight(11, 0, 3);
        Check.same("d", post.dreamt(0), 8);
        post.known(23);
        Check.same("without it", post.dreamt(0), 14);
    }

    static void aStrikeBehindNDoesNotCount() {
        SleepPost post = Check.of(ROW + "sleeper x a 9 d;");
        post.sight(11, 0, 3);
        post.strike(0);
        post.known(1);
        Check.same("not struck by one that isn't known", post.dreamt(0), 8);
        post.known(2);
        Check.same("struck", post.dreamt(0), 15);
    }

    // ---- Promise 23 ----

    static void dreamtByNoSuchSleeper() {
        SleepPost post = Check.of(FULL);
        Check.same("the last", post.dreamt(4), 255);
        for (int sleeper : new int[] {-1, 5, MIN, MAX}) {
            Check.same("dreamt(" + sleeper + ")", post.dreamt(sleeper), -1);
        }
        Check.same("sleeper 1 of one", Check.of("house a;sleeper x a 0 a;").dreamt(1), -1);
    }

    static void dreamtWithoutSightsIsAllHouses() {
        Check.same("eight", Check.of(FULL).dreamt(0), 255);
        Check.same("one", Check.of("house a;sleeper x a 0 a;").dreamt(0), 1);
    }

    static void dreamtOfSightsBehindHour0AndHour11() {
        SleepPost post = Check.of(ROW + "sleeper x a 9 d;");
        post.sight(0, 0, 0);
        Check.same("stays", post.dreamt(0), 1);
        post = Check.of(ROW + "sleeper x a 9 d;");
        post.sight(11, 0, 1);
        Check.same("b", post.dreamt(0), 2);
    }

    static void dreamtIsFromTheTextOn() {
        String text = ROW + "sleeper x a 3 d;bell c 5;lamp b 0 0;letter x b;seed 3;";
        SleepPost post = Check.of(text);
        post.sight(11, 0, 2);
        int due = post.dreamt(0);
        Check.same("woken in c", due, 12);
        post.bell(2, 0);
        post.bell(1, 9);
        post.lit(0, true);
        post.hours(17);
        post.lay(0, 0);
        Check.same("as told", post.dreamt(0), due);
        Check.same("tells, too", post.tells(0, 1), 1);
    }

    static void dreamtHasLampsAsTold() {
        SleepPost post = Check.of("house a;house b;street a b 1;sleeper x a 9 a;law pull light*far;lamp b 0 0;");
        post.sight(0, 0, 1);
        Check.same("the lamp of b leads there whoever dreams of a", post.dreamt(0), 1);
        post.lit(0, true);
        Check.same("what is lit by call does not count", post.dreamt(0), 1);
    }

    static void dreamtHasLettersAsTold() {
        // With a letter in hand x stays in a; the letter is for b, and x walks there in the first hour of the text.
        SleepPost post = Check.of("house a;house b;street a b 1;sleeper x a 9 b;letter x b;law pull mail*(9-far)+(mail=0)*far*0;");
        post.sight(0, 0, 1);
        Check.same("b", post.dreamt(0), 2);
        post.hours(12);
        Check.same("it arrived", post.letter(0, 2), 2);
        Check.same("still b", post.dreamt(0), 2);
    }

    static void dreamtIsAsItGoes() {
        SleepPost post = Check.of(ROW + "sleeper x a 9 d;law wake 49;seed 5;");
        post.sight(11, 0, 3);
        Check.same("not woken by 49", post.dreamt(0), 8);
        post = Check.of(ROW + "sleeper x a 9 d;law wake (far=3)*49;seed 5;");
        post.sight(11, 0, 2);
        Check.same("c itself", post.dreamt(0), 4);
        post = Check.of(ROW + "sleeper x a 9 d;law wake (far=3)*50;seed 5;");
        post.sight(11, 0, 2);
        Check.same("c itself, or woken there by 50", post.dreamt(0), 12);
    }

    static void theOthersDreamAsTold() {
        // y takes the letter from the bed that both have, if y is the first: then x has no mail and stays.
        String text = "house a;house b;house c;street a b 1;street a c 1;sleeper y a 9 b;sleeper x a 9 c;letter x c;";
        SleepPost post = Check.of(text + "law pull mail*(9-far);");
        post.sight(0, 1, 0);
        Check.same("x stays with any dream", post.dreamt(1), 7);
        Check.same("y's own", post.dreamt(0), 7);
    }

    // ---- Promise 24 ----

    static void tellsOfNoSuchOnes() {
        SleepPost post = Check.of(FULL);
        for (int sleeper : new int[] {-1, 5, MIN, MAX}) {
            Check.same("sleeper " + sleeper, post.tells(sleeper, 0), -1);
        }
        for (int what : new int[] {-1, 2, MIN, MAX}) {
            Check.same("what " + what, post.tells(0, what), -1);
        }
    }

    static void tellsIfNothingIsDreamt() {
        SleepPost post = Check.of(ROW + "sleeper x a 9 d;");
        post.sight(0, 0, 3);
        Check.same("the hour", post.tells(0, 0), -2);
        Check.same("how many", post.tells(0, 1), -2);
        Check.same("no such what", post.tells(0, 2), -1);
        Check.same("no such sleeper", post.tells(1, 0), -1);
    }

    static void tellsTheFirstOfSeveralHours() {
        SleepPost post = Check.of(ROW + "sleeper x a 9 d;");
        // Behind hour 0: a b; behind 1: a b c; from 2 on: a b c d.
        Check.same("the hour", post.tells(0, 0), 2);
        Check.same("how many", post.tells(0, 1), 4);
        post.sight(11, 0, 3);
        Check.same("of one alone the first hour", post.tells(0, 0), 0);
        Check.same("one", post.tells(0, 1), 1);
    }

    static void tellsHour11() {
        SleepPost post = Check.of("house a;house b;street a b 1;sleeper x a 9 b;law pull (hour=11)*(9-far);");
        Check.same("the hour", post.tells(0, 0), 11);
        Check.same("how many", post.tells(0, 1), 2);
    }

    static void tellsOfAllEightHouses() {
        String star = "house a;house b;house c;house d;house e;house f;house g;house h;street a b 1;street a c 1;street a d 1;street a e 1;"
            + "street a f 1;street a g 1;street a h 1;sleeper x a 9 a;";
        SleepPost post = Check.of(star);
        Check.same("the hour", post.tells(0, 0), 0);
        Check.same("eight", post.tells(0, 1), 8);
        post.sight(5, 0, 7);
        Check.same("one", post.tells(0, 1), 1);
    }

    static void tellsUnlikeHousesNotDreams() {
        // b, c and d as the dream have x in b behind hour 0; all four make two houses.
        SleepPost post = Check.of(ROW + "sleeper x a 9 d;law pull (hour=0)*(100-far);");
        Check.same("the hour", post.tells(0, 0), 0);
        Check.same("two houses", post.tells(0, 1), 2);
    }
}
