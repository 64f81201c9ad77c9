/** The town, the values of laws and promises 6 to 13: each sentence that names a boundary has a test of its own. */
public final class BoundaryTownTest {
    private static final int MIN = Integer.MIN_VALUE;
    private static final int MAX = Integer.MAX_VALUE;
    private static final long ERROR = Long.MIN_VALUE;
    /** Four houses in a row, a b c d, with streets of 1, 2, 3. */
    private static final String ROW = "house a;house b;house c;house d;street a b 1;street b c 2;street c d 3;";
    private static final String EIGHT = "house a;house b;house c;house d;house e;house f;house g;house h;";
    private static final String MILLION = "(1000*1000)";
    private static final String BILLION2 = "(1000*1000*1000*1000)";

    public static void main(String[] args) {
        Check.runAll(BoundaryTownTest.class);
    }

    // ---- Promise 6 ----

    private static SleepPost fiveSleepers() {
        return Check.of(ROW + "sleeper p a 0 a;sleeper q b 1 b;sleeper r c 2 c;sleeper s d 3 d;sleeper t a 9 d;");
    }

    static void lookAtTheFirstAndTheLastSleeper() {
        SleepPost post = fiveSleepers();
        Check.same("first", post.look(0, 1), 0);
        Check.same("last", post.look(4, 3), 9);
        Check.same("last", post.look(4, 2), 3);
    }

    static void lookAtNoSuchSleeper() {
        SleepPost post = fiveSleepers();
        for (int sleeper : new int[] {-1, 5, 6, MIN, MAX}) {
            Check.same("look(" + sleeper + ", 0)", Check.lookThrows(post, sleeper, 0), 1);
        }
        Check.same("sleeper 1 of one", Check.lookThrows(Check.of("house a;sleeper x a 0 a;"), 1, 0), 1);
        Check.same("sleeper 0 of none", Check.lookThrows(Check.of("house a;"), 0, 0), 1);
    }

    static void lookAtNoSuchWhat() {
        SleepPost post = fiveSleepers();
        for (int what : new int[] {-1, 6, 7, MIN, MAX}) {
            Check.same("look(4, " + what + ")", Check.lookThrows(post, 4, what), 2);
        }
        for (int what = 0; what <= 5; what++) {
            Check.same("look(4, " + what + ")", Check.lookThrows(post, 4, what), 0);
        }
    }

    static void lookAtNoSuchSleeperAndNoSuchWhat() {
        Check.same("both", Check.lookThrows(fiveSleepers(), 5, 6), 1);
        Check.same("both", Check.lookThrows(fiveSleepers(), -1, -1), 1);
        Check.same("both", Check.lookThrows(new SleepPost(), 0, 6), 1);
    }

    static void aThrowingLookLeavesAll() {
        SleepPost post = fiveSleepers();
        post.hours(2);
        String before = Check.state(post);
        Check.lookThrows(post, 5, 0);
        Check.lookThrows(post, 0, 6);
        Check.same("all stays", Check.state(post).equals(before), true);
    }

    static void lookAtNoneAndAllLettersInHand() {
        SleepPost post = Check.of(ROW + "sleeper x a 9 b;" + "letter x d;".repeat(8));
        Check.same("none", post.look(0, 5), 0);
        post.hours(1);
        Check.same("all eight", post.look(0, 5), 255);
        Check.same("count", post.count(9), 8);
    }

    static void lookWhetherWoken() {
        SleepPost post = Check.of(ROW + "sleeper x a 3 d;sleeper y a 4 d;bell b 4;");
        Check.same("not yet", post.look(0, 4), 0);
        post.hours(1);
        Check.same("x", post.look(0, 4), 1);
        Check.same("y", post.look(1, 4), 0);
        Check.same("count", post.count(10), 1);
    }

    // ---- Promise 7 ----

    static void noSuchLetter() {
        SleepPost post = Check.of("house a;sleeper x a 0 a;" + "letter x a;".repeat(8));
        Check.same("the last", post.letter(7, 0), 0);
        for (int letter : new int[] {-1, 8, MIN, MAX}) {
            Check.same("letter(" + letter + ", 0)", post.letter(letter, 0), -1);
        }
        Check.same("letter 1 of one", Check.of("house a;sleeper x a 0 a;letter x a;").letter(1, 0), -1);
        Check.same("letter 0 of none", Check.of("house a;sleeper x a 0 a;").letter(0, 0), -1);
    }

    static void noSuchWhatOfALetter() {
        SleepPost post = Check.of("house a;sleeper x a 0 a;letter x a;");
        for (int what : new int[] {-1, 4, MIN, MAX}) {
            Check.same("letter(0, " + what + ")", post.letter(0, what), -1);
        }
    }

    static void nobodyHadALetterYet() {
        SleepPost post = Check.of(ROW + "sleeper x a 9 b;sleeper y c 9 c;letter x c;");
        Check.same("nobody", post.letter(0, 3), -1);
        post.lay(0, 1);
        Check.same("laid, still nobody", post.letter(0, 3), -1);
        post.hours(1);
        Check.same("y, who stays and leaves it", post.letter(0, 3), 1);
        Check.same("arrived", post.letter(0, 2), 2);
    }

    static void whoHadALetterLast() {
        SleepPost post = Check.of(ROW + "sleeper x a 9 b;sleeper y b 9 c;letter x c;");
        post.hours(12);
        Check.same("x", post.letter(0, 3), 0);
        Check.same("it lies", post.letter(0, 2), 0);
        post.hours(1);
        Check.same("y", post.letter(0, 3), 1);
        Check.same("arrived", post.letter(0, 2), 2);
        Check.same("in its house", post.letter(0, 1), 2);
        post.hours(30);
        Check.same("y for ever", post.letter(0, 3), 1);
    }

    static void aLetterForTheHouseOfItsBedLiesFirst() {
        SleepPost post = Check.of(ROW + "sleeper x a 9 a;letter x a;");
        Check.same("it lies", post.letter(0, 2), 0);
        Check.same("there", post.letter(0, 1), 0);
        Check.same("none arrived", post.count(8), 0);
        post.hours(1);
        Check.same("arrived", post.letter(0, 2), 2);
        Check.same("there", post.letter(0, 1), 0);
        Check.same("x had it", post.letter(0, 3), 0);
    }

    static void aLetterInHandIsWhoseHandItIsIn() {
        SleepPost post = Check.of(ROW + "sleeper y d 9 d;sleeper x b 9 c;letter x d;");
        Check.same("it lies in b", post.letter(0, 1), 1);
        post.hours(1);
        Check.same("in hand", post.letter(0, 2), 1);
        Check.same("of x, not c", post.letter(0, 1), 1);
        Check.same("x stands in c", post.look(1, 0), 2);
        post.hours(11);
        Check.same("it lies in c", post.letter(0, 1), 2);
    }

    // ---- Promise 8, FAR ----

    static void farOfNoSuchHouses() {
        SleepPost post = Check.of(EIGHT);
        Check.same("the last", post.far(7, 7), 0);
        for (int house : new int[] {-1, 8, MIN, MAX}) {
            Check.same("far(" + house + ", 0)", post.far(house, 0), -1);
            Check.same("far(0, " + house + ")", post.far(0, house), -1);
            Check.same("far(" + house + ", " + house + ")", post.far(house, house), -1);
        }
        Check.same("far(0, 1) of one house", Check.of("house a;").far(0, 1), -1);
        Check.same("far(1, 0) of one house", Check.of("house a;").far(1, 0), -1);
    }

    static void farIs99WithoutAWay() {
        SleepPost post = Check.of(ROW + "house e;house f;street e f 1;");
        for (int house = 0; house < 4; house++) {
            Check.same("to e", post.far(house, 4), 99);
            Check.same("from f", post.far(5, house), 99);
        }
        Check.same("e f", post.far(4, 5), 1);
    }

    static void farOfAHouseToItselfIs0() {
        SleepPost post = Check.of(ROW);
        for (int house = 0; house < 4; house++) {
            Check.same("far(" + house + ")", post.far(house, house), 0);
        }
        Check.same("without a street", Check.of("house a;").far(0, 0), 0);
    }

    static void farIsTheLeastSumNotTheFewestStreets() {
        SleepPost post = Check.of(ROW + "street a d 7;");
        Check.same("round", post.far(0, 3), 6);
        Check.same("as long", Check.of(ROW + "street a d 6;").far(3, 0), 6);
        Check.same("nearer", Check.of(ROW + "street a d 5;").far(3, 0), 5);
    }

    static void farOverAllEightHouses() {
        StringBuilder text = new StringBuilder(EIGHT);
        int[] order = {3, 7, 0, 5, 1, 6, 2, 4};
        for (int i = 0; i < 7; i++) {
            text.append("street ").append((char) ('a' + order[i])).append(' ').append((char) ('a' + order[i + 1])).append(" 9;");
        }
        SleepPost post = Check.of(text.toString());
        for (int i = 0; i < 8; i++) {
            for (int k = 0; k < 8; k++) {
                Check.same("far", post.far(order[i], order[k]), 9 * Math.abs(i - k));
            }
        }
    }

    // ---- Promise 9, LIGHT and NOISE ----

    static void atNoSuchHouse() {
        SleepPost post = Check.of(EIGHT + "bell h 1;");
        Check.same("the last", post.at(7, 0, 1), 1);
        for (int house : new int[] {-1, 8, MIN, MAX}) {
            Check.same("at(" + house + ", 0, 0)", post.at(house, 0, 0), -1);
            Check.same("at(" + house + ", 0, 1)", post.at(house, 0, 1), -1);
        }
    }

    static void atNoSuchHour() {
        SleepPost post = Check.of("house a;bell a 2;lamp a 0 11;");
        for (int hour : new int[] {-1, 12, MIN, MAX}) {
            Check.same("at(0, " + hour + ", 0)", post.at(0, hour, 0), -1);
            Check.same("at(0, " + hour + ", 1)", post.at(0, hour, 1), -1);
        }
        Check.same("hour 0", post.at(0, 0, 1), 2);
        Check.same("hour 11", post.at(0, 11, 1), 2);
    }

    static void atNoSuchWhat() {
        SleepPost post = Check.of("house a;");
        for (int what : new int[] {-1, 2, MIN, MAX}) {
            Check.same("at(0, 0, " + what + ")", post.at(0, 0, what), -1);
        }
    }

    static void aLampIsThereFromItsFirstHourToItsLast() {
        for (int from = 0; from < 12; from++) {
            for (int to = from; to < 12; to++) {
                SleepPost post = Check.of("house a;house b;lamp b " + from + " " + to + ";");
                for (int hour = 0; hour < 12; hour++) {
                    Check.same("lamp " + from + " " + to + " at " + hour, post.at(1, hour, 0), hour >= from && hour <= to ? 1 : 0);
                }
                Check.same("not in a", post.at(0, from, 0), 0);
            }
        }
    }

    static void lightIs1WithTwoLampsAndByCall() {
        SleepPost post = Check.of("house a;lamp a 0 5;lamp a 5 5;");
        post.lit(0, true);
        Check.same("three", post.at(0, 5, 0), 1);
        Check.same("by call alone", post.at(0, 6, 0), 1);
        post.lit(0, false);
        Check.same("two", post.at(0, 5, 0), 1);
        Check.same("none", post.at(0, 6, 0), 0);
    }

    static void lightDoesNotHangOnTheHourOfNow() {
        SleepPost post = Check.of("house a;lamp a 2 4;");
        post.hours(7);
        Check.same("an hour that went by", post.at(0, 3, 0), 1);
        Check.same("now", post.at(0, 7, 0), 0);
    }

    static void noiseOfNothingAndOfAll() {
        SleepPost post = Check.of("house a;house b;house c;house d;house e;bell b 9;corner b 9;cat b;cat c;corner d 4;bell e 1;");
        int[] due = {0, 21, 3, 4, 1};
        for (int house = 0; house < 5; house++) {
            Check.same("noise of " + house, post.at(house, 0, 1), due[house]);
        }
    }

    // ---- Promise 10, the values ----

    static void lawOfNoSuchOnes() {
        SleepPost post = Check.of(EIGHT + "sleeper x a 0 a;law pull 1;law wake 2;law drop 3;");
        for (int what = 0; what < 3; what++) {
            Check.same("law " + what, post.law(what, 0, 7), what + 1);
        }
        for (int wrong : new int[] {-1, 3, 4, MIN, MAX}) {
            Check.same("what " + wrong, post.law(wrong, 0, 0), ERROR);
        }
        for (int wrong : new int[] {-1, 1, 5, MIN, MAX}) {
            Check.same("sleeper " + wrong, post.law(0, wrong, 0), ERROR);
        }
        for (int wrong : new int[] {-1, 8, MIN, MAX}) {
            Check.same("house " + wrong, post.law(0, 0, wrong), ERROR);
        }
    }

    static void lawThatIsNotTold() {
        String[] rules = {"pull", "wake", "drop"};
        for (int told = 0; told < 3; told++) {
            SleepPost post = Check.of("house a;sleeper x a 0 a;law " + rules[told] + " 7;");
            for (int what = 0; what < 3; what++) {
                Check.same(rules[told] + ", law " + what, post.law(what, 0, 0), what == told ? 7 : ERROR);
            }
        }
    }

    static void lawsWithErrors() {
        SleepPost post = Check.of("house a;sleeper x a 0 a;law pull 1/0;law wake 1/light;law drop 1/mail;");
        for (int what = 0; what < 3; what++) {
            Check.same("law " + what, post.law(what, 0, 0), ERROR);
        }
        post.lit(0, true);
        Check.same("lit", post.law(1, 0, 0), 1);
    }

    static void lawsAreNotCutTo0And100() {
        SleepPost post = Check.of("house a;sleeper x a 0 a;law wake 0-5;law drop 0-6;law pull 0-7;");
        Check.same("wake", post.law(1, 0, 0), -5);
        Check.same("drop", post.law(2, 0, 0), -6);
        Check.same("pull", post.law(0, 0, 0), -7);
        Check.same("wake", Check.of("house a;sleeper x a 0 a;law wake 101;").law(1, 0, 0), 101);
    }

    static void wayOfALaw() {
        SleepPost post = Check.of(ROW + "sleeper x b 0 a;law pull way;law wake way;law drop way;");
        int[] due = {1, 0, 2, 0};
        for (int house = 0; house < 4; house++) {
            Check.same("pull to " + house, post.law(0, 0, house), due[house]);
            Check.same("wake", post.law(1, 0, house), 0);
            Check.same("drop", post.law(2, 0, house), 0);
        }
    }

    static void mailOfALawIsWhatIsInHandNow() {
        SleepPost post = Check.of(ROW + "sleeper x a 9 b;sleeper y d 9 d;" + "letter x c;".repeat(8) + "law pull mail;law wake 0;");
        Check.same("nothing is in hand yet", post.law(0, 0, 0), 0);
        post.hours(1);
        Check.same("all eight", post.law(0, 0, 3), 8);
        Check.same("not y's", post.law(0, 1, 0), 0);
    }

    static void hourOfALawIsNow() {
        SleepPost post = Check.of("house a;sleeper x a 0 a;law pull hour;lamp a 3 3;law drop light;law wake 0;");
        for (int hour = 0; hour < 25; hour++) {
            Check.same("hour", post.law(0, 0, 0), hour % 12);
            Check.same("light", post.law(2, 0, 0), hour % 12 == 3 ? 1 : 0);
            post.hours(1);
        }
    }

    static void farOfALawIs99WithoutAWay() {
        SleepPost post = Check.of("house a;house b;sleeper x a 0 b;law pull far;");
        Check.same("from a", post.law(0, 0, 0), 99);
        Check.same("from b", post.law(0, 0, 1), 0);
    }

    private static long value(String e) {
        return Check.of("house a;sleeper x a 5 a;law wake 0;law pull " + e + ";").law(0, 0, 0);
    }

    static void tenToThe12IsAValue() {
        Check.same("by *", value(MILLION + "*" + MILLION), 1000000000000L);
        Check.same("by +", value("(" + BILLION2 + "-1)+1"), 1000000000000L);
        Check.same("by -", value("(" + BILLION2 + "-1)-(0-1)"), 1000000000000L);
        Check.same("by * below 0", value("(0-" + MILLION + ")*(0-" + MILLION + ")"), 1000000000000L);
        Check.same("by /", value("(0-" + BILLION2 + ")/(0-1)"), 1000000000000L);
        Check.same("one less", value(BILLION2 + "-1"), 999999999999L);
    }

    static void aboveTenToThe12IsAnError() {
        Check.same("by +", value(BILLION2 + "+1"), ERROR);
        Check.same("by + on the left", value("1+" + BILLION2), ERROR);
        Check.same("by -", value(BILLION2 + "-(0-1)"), ERROR);
        Check.same("by *", value("(" + MILLION + "+1)*" + MILLION), ERROR);
        Check.same("by * on the right", value(MILLION + "*(" + MILLION + "+1)"), ERROR);
        Check.same("by * below 0", value("(0-" + MILLION + "-1)*(0-" + MILLION + ")"), ERROR);
    }

    static void tenToThe12Below0IsAValue() {
        Check.same("by *", value("(0-" + MILLION + ")*" + MILLION), -1000000000000L);
        Check.same("by * on the right", value(MILLION + "*(0-" + MILLION + ")"), -1000000000000L);
        Check.same("by -", value("0-" + BILLION2), -1000000000000L);
        Check.same("by +", value("(1-" + BILLION2 + ")+(0-1)"), -1000000000000L);
        Check.same("one more", value("1-" + BILLION2), -999999999999L);
    }

    static void moreThanTenToThe12Below0IsAnError() {
        Check.same("by -", value("0-" + BILLION2 + "-1"), ERROR);
        Check.same("by +", value("(0-" + BILLION2 + ")+(0-1)"), ERROR);
        Check.same("by *", value("(0-" + MILLION + "-1)*" + MILLION), ERROR);
        Check.same("by * on the right", value(MILLION + "*(0-" + MILLION + "-1)"), ERROR);
    }

    static void aPartAboveIsAnErrorToo() {
        Check.same("in a sum", value(BILLION2 + "+1-1"), ERROR);
        Check.same("in a product", value("(" + BILLION2 + "+1)*0"), ERROR);
        Check.same("in a comparison", value(BILLION2 + "+1>0"), ERROR);
        Check.same("behind not", value("not (" + BILLION2 + "*2)"), ERROR);
        Check.same("divided again", value(BILLION2 + "*2/2"), ERROR);
    }

    /** Products whose lowest 64 bits would be a value: 2 to the 64 is 0, 2 to the 63 is below 0. */
    static void productsDoNotWrapAround() {
        String two32 = "(256*256*256*256)";
        Check.same("2 to the 64", value(two32 + "*" + two32), ERROR);
        Check.same("2 to the 64 below 0", value("(0-" + two32 + ")*" + two32), ERROR);
        Check.same("2 to the 63", value(two32 + "*(" + two32 + "/2)"), ERROR);
        Check.same("2 to the 63 below 0", value("(0-" + two32 + ")*(" + two32 + "/2)"), ERROR);
        Check.same("2 to the 64 less 1", value("(" + two32 + "+1)*(" + two32 + "-1)"), ERROR);
        Check.same("10 to the 24", value(BILLION2 + "*" + BILLION2), ERROR);
        Check.same("10 to the 24 below 0", value("(0-" + BILLION2 + ")*" + BILLION2), ERROR);
    }

    static void divisionBy0IsAnError() {
        Check.same("1/0", value("1/0"), ERROR);
        Check.same("0/0", value("0/0"), ERROR);
        Check.same("1/(1/2)", value("1/(1/2)"), ERROR);
        Check.same("by light", value("1/light"), ERROR);
        Check.same("by a comparison", value("1/(1>2)"), ERROR);
        Check.same("0/1", value("0/1"), 0);
    }

    static void divisionIsCutTowards0() {
        Check.same("7/2", value("7/2"), 3);
        Check.same("-7/2", value("(0-7)/2"), -3);
        Check.same("7/-2", value("7/(0-2)"), -3);
        Check.same("-7/-2", value("(0-7)/(0-2)"), 3);
        Check.same("1/2", value("1/2"), 0);
        Check.same("-1/2", value("(0-1)/2"), 0);
    }

    static void signsOfAKindGoFromTheLeft() {
        Check.same("9-4-3", value("9-4-3"), 2);
        Check.same("9-4+3", value("9-4+3"), 8);
        Check.same("100/7/2", value("100/7/2"), 7);
        Check.same("7/2*2", value("7/2*2"), 6);
        Check.same("7*3/2", value("7*3/2"), 10);
    }

    static void comparisonsOfLikeAndOfNeighbours() {
        String[] signs = {"<", "<=", "=", "<>", ">=", ">"};
        int[] less = {1, 1, 0, 1, 0, 0};
        int[] like = {0, 1, 1, 0, 1, 0};
        int[] more = {0, 0, 0, 1, 1, 1};
        for (int i = 0; i < 6; i++) {
            Check.same("4" + signs[i] + "5", value("4" + signs[i] + "5"), less[i]);
            Check.same("5" + signs[i] + "5", value("5" + signs[i] + "5"), like[i]);
            Check.same("6" + signs[i] + "5", value("6" + signs[i] + "5"), more[i]);
            Check.same("-1" + signs[i] + "0", value("0-1" + signs[i] + "0"), less[i]);
        }
    }

    static void whatIsNot0IsAs1() {
        Check.same("2 and 4", value("2 and 4"), 1);
        Check.same("below 0", value("(0-1) and (0-2)"), 1);
        Check.same("0 or -1", value("0 or (0-1)"), 1);
        Check.same("not 2", value("not 2"), 0);
        Check.same("not -1", value("not (0-1)"), 0);
        Check.same("not 0", value("not 0"), 1);
        Check.same("not not 7", value("not not 7"), 1);
        Check.same("0 and 1", value("0 and 1"), 0);
        Check.same("1 and 0", value("1 and 0"), 0);
        Check.same("0 or 0", value("0 or 0"), 0);
        Check.same("a plain value stays", value("7"), 7);
    }

    static void bothSidesAreWorkedOut() {
        Check.same("1 or an error", value("1 or 1/0"), ERROR);
        Check.same("an error or 1", value("1/0 or 1"), ERROR);
        Check.same("0 and an error", value("0 and 1/0"), ERROR);
        Check.same("an error and 0", value("1/0 and 0"), ERROR);
        Check.same("not an error", value("not 1/0"), ERROR);
        Check.same("an error = an error", value("1/0=1/0"), ERROR);
        Check.same("an error at the very end", value("1 or 2 and 3 or 1/(1-1)"), ERROR);
    }

    static void theGreatestNumberIsAValue() {
        Check.same("9999", value("9999"), 9999);
        Check.same("9999*9999", value("9999*9999"), 99980001);
        Check.same("0", value("0"), 0);
    }

    static void sixtyFourKnotsAreWorkedOut() {
        Check.same("a long sum", value("1" + "+1".repeat(30)), 31);
        Check.same("63 times not", Check.of("house a;sleeper x a 0 a;law pull " + "not ".repeat(63) + "5;").law(0, 0, 0), 0);
        Check.same("62 times not", Check.of("house a;sleeper x a 0 a;law pull " + "not ".repeat(62) + "5;").law(0, 0, 0), 1);
        String deep = "1+(".repeat(8) + "1" + ")".repeat(8);
        Check.same("eight brackets", value(deep), 9);
        Check.same("the right side waits", value("1 or 1 and 1<1+1*(1 or 1 and 1<1+1*(1 or 1 and 1<1+1*2))"), 1);
        Check.same("in one another", value("2-(2-(2-(2-(2-(2-(2-(2-1)))))))"), 1);
    }

    // ---- Promise 11 ----

    private static final String LAYING = ROW + "sleeper x a 9 b;sleeper y d 9 d;sleeper z a 9 c;letter x b;letter y c;letter x d;";

    static void layOfNoSuchLetter() {
        SleepPost post = Check.of(LAYING);
        Check.refused("letter", post, new int[] {-1, 3, 8, MIN, MAX}, letter -> post.lay(letter, 1) ? 1 : 0, 0);
    }

    static void layByNoSuchSleeper() {
        SleepPost post = Check.of(LAYING);
        Check.refused("sleeper", post, new int[] {-1, 3, 5, MIN, MAX}, sleeper -> post.lay(0, sleeper) ? 1 : 0, 0);
    }

    static void layWhereItLies() {
        SleepPost post = Check.of(LAYING);
        Check.refused("its own bed", post, () -> post.lay(0, 0));
        Check.refused("another bed of that house", post, () -> post.lay(0, 2));
        Check.same("elsewhere", post.lay(0, 1), true);
        Check.refused("now there", post, () -> post.lay(0, 1));
        Check.same("and back", post.lay(0, 2), true);
    }

    static void layOfALetterInHand() {
        SleepPost post = Check.of(LAYING);
        post.hours(1);
        Check.same("in hand", post.letter(2, 2), 1);
        Check.refused("by x", post, () -> post.lay(2, 0));
        Check.refused("by y", post, () -> post.lay(2, 1));
    }

    static void layOfALetterThatArrived() {
        SleepPost post = Check.of(LAYING);
        post.hours(1);
        Check.same("arrived", post.letter(0, 2), 2);
        Check.refused("by x", post, () -> post.lay(0, 0));
        Check.refused("by y", post, () -> post.lay(0, 1));
    }

    static void layFromAHouseWithoutABed() {
        SleepPost post = Check.of(ROW + "sleeper x a 9 c;letter x d;law drop far=2;");
        post.hours(1);
        Check.same("it lies in b", post.letter(0, 1), 1);
        Check.same("laid", post.lay(0, 0), true);
        Check.same("it lies in a", post.letter(0, 1), 0);
        Check.same("nothing else moves", post.look(0, 0), 1);
    }

    static void layInTheHouseItIsForIsNotArriving() {
        SleepPost post = Check.of(ROW + "sleeper x a 9 a;sleeper y b 9 b;letter x b;");
        Check.same("laid", post.lay(0, 1), true);
        Check.same("it lies", post.letter(0, 2), 0);
        Check.same("none arrived", post.count(8), 0);
        post.hours(1);
        Check.same("y leaves it", post.letter(0, 2), 2);
    }

    // ---- Promise 12 ----

    static void litOfNoSuchHouse() {
        SleepPost post = Check.of(EIGHT);
        Check.refused("lit", post, new int[] {-1, 8, 31, 32, MIN, MAX}, house -> post.lit(house, true) ? 1 : 0, 0);
        Check.refused("no more", post, new int[] {-1, 8, 31, 32, MIN, MAX}, house -> post.lit(house, false) ? 1 : 0, 0);
    }

    static void litIfItIsSo() {
        SleepPost post = Check.of(EIGHT + "lamp h 0 11;");
        Check.refused("not lit", post, () -> post.lit(7, false));
        Check.same("lit, though there is a lamp", post.lit(7, true), true);
        Check.refused("lit already", post, () -> post.lit(7, true));
        Check.same("no more", post.lit(7, false), true);
        Check.refused("no more already", post, () -> post.lit(7, false));
    }

    static void allEightLit() {
        SleepPost post = Check.of(EIGHT);
        for (int house = 0; house < 8; house++) {
            Check.same("lit", post.lit(house, true), true);
        }
        Check.same("bits", post.count(11), 255);
        post.lit(0, false);
        Check.same("bits", post.count(11), 254);
    }

    static void litStaysBeyondTheNight() {
        SleepPost post = Check.of(ROW + "sleeper x a 9 a;law pull light;");
        post.lit(1, true);
        post.hours(30);
        Check.same("still lit", post.count(11), 2);
        Check.same("x walks", post.look(0, 0), 1);
        post.lit(1, false);
        Check.same("no more", post.at(1, 3, 0), 0);
    }

    // ---- Promise 13 ----

    static void bellOfNoSuchHouse() {
        SleepPost post = Check.of(EIGHT);
        Check.refused("house", post, new int[] {-1, 8, MIN, MAX}, house -> post.bell(house, 1) ? 1 : 0, 0);
    }

    static void bellOfNoSuchLoud() {
        SleepPost post = Check.of(EIGHT + "bell a 5;");
        Check.refused("loud", post, new int[] {-1, 10, MIN, MAX}, loud -> post.bell(0, loud) ? 1 : 0, 0);
    }

    static void bellIfItIsSo() {
        SleepPost post = Check.of(EIGHT + "bell a 5;");
        Check.refused("as told", post, () -> post.bell(0, 5));
        Check.refused("none as told", post, () -> post.bell(1, 0));
        Check.same("by call", post.bell(0, 6), true);
        Check.refused("as by call", post, () -> post.bell(0, 6));
        Check.same("as told again", post.bell(0, 5), true);
    }

    static void bellOf0And9() {
        SleepPost post = Check.of("house a;bell a 5;corner a 2;cat a;");
        Check.same("9", post.bell(0, 9), true);
        Check.same("noise", post.at(0, 0, 1), 14);
        Check.same("0", post.bell(0, 0), true);
        Check.same("noise", post.at(0, 0, 1), 5);
        Check.same("1", post.bell(0, 1), true);
        Check.same("noise", post.at(0, 0, 1), 6);
    }

    static void bellStaysBeyondTheNight() {
        SleepPost post = Check.of(ROW + "sleeper x a 3 d;");
        post.bell(1, 4);
        post.hours(13);
        Check.same("woken in the second night, too", post.look(0, 4), 1);
        Check.same("noise", post.at(1, 0, 1), 4);
    }
}
