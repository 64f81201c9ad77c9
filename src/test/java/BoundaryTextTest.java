import java.util.regex.Matcher;
import java.util.regex.Pattern;

/** The TEXT, its FAULTS and promises 1 to 5: each sentence that names a boundary has a test of its own. */
public final class BoundaryTextTest {
    private static final int MIN = Integer.MIN_VALUE;
    private static final int MAX = Integer.MAX_VALUE;
    private static final int BLANKS = ' ' << 24 | ' ' << 16 | ' ' << 8 | ' ';
    private static final String LANGUAGE = "house street sleeper letter lamp bell cat corner seed law pull wake drop or and not deep far light noise mail hour way";
    private static final String EIGHT = "house a;house b;house c;house d;house e;house f;house g;house h;";
    private static final String TWELVE = EIGHT + "street a b 1;street a c 1;street a d 1;street a e 1;street a f 1;street a g 1;street a h 1;"
        + "street b c 1;street b d 1;street b e 1;street b f 1;street b g 1;";
    private static final String FIVE = "house a;sleeper p a 0 a;sleeper q a 9 a;sleeper r a 0 a;sleeper s a 0 a;sleeper t a 0 a;";
    private static final String TOWN = "house a;house b;house c;street a b 3;street b c 1;sleeper x a 1 c;sleeper y b 9 b;letter x c;letter x b;bell b 2;seed 5;";

    public static void main(String[] args) {
        Check.runAll(BoundaryTextTest.class);
    }

    private static void fine(String text, int lines) {
        Check.fine(text, lines);
    }

    private static void mark(String text, int fault) {
        Check.faultAtMark(text, fault);
    }

    /** A town at NIGHT 1, HOUR 2, with all that can be: lit, a bell, an IMAGE, SIGHTS, KNOWN by 1, two changes. */
    private static SleepPost busy() {
        SleepPost post = Check.of(TOWN);
        post.keep();
        post.hours(14);
        post.sight(0, 0, 1);
        post.sight(1, 0, 1);
        post.known(1);
        post.lit(1, true);
        post.bell(2, 4);
        return post;
    }

    // ---- Promise 1 ----

    static void aNewObjectHasNothing() {
        SleepPost post = new SleepPost();
        for (int what = 0; what <= 14; what++) {
            Check.same("count(" + what + ")", post.count(what), 0);
        }
        Check.same("named", post.named(0, 1 << 25), -1);
        Check.same("named of no letters", post.named(0, 0), -1);
        Check.same("named of no letters", post.named(1, 0), -1);
        Check.same("look", Check.lookThrows(post, 0, 0), 1);
        Check.same("letter", post.letter(0, 0), -1);
        Check.same("far", post.far(0, 0), -1);
        Check.same("at", post.at(0, 0, 0), -1);
        Check.same("law", post.law(0, 0, 0), Long.MIN_VALUE);
    }

    static void aNewObjectHasAnEmptyTape() {
        Check.same("text(1)", new SleepPost().text(1), -2);
        Check.same("text(0)", new SleepPost().text(0), 0);
        Check.same("feed", new SleepPost().feed(0, 0, 0, 0, 0), 20);
    }

    static void nothingOfANewObjectCanBeChanged() {
        SleepPost post = new SleepPost();
        Check.refused("lay", post, () -> post.lay(0, 0));
        Check.refused("lit", post, () -> post.lit(0, true));
        Check.refused("bell", post, () -> post.bell(0, 1));
        Check.refused("sight", post, () -> post.sight(0, 0, 0), -1);
        Check.refused("strike", post, () -> post.strike(0), -1);
        Check.refused("known", post, () -> post.known(1));
        Check.refused("undo", post, post::undo, -1);
        Check.refused("back", post, post::back, -1);
    }

    static void aNewObjectAnswersAllQuestions() {
        SleepPost post = new SleepPost();
        Check.same("where", post.where(0, 0), -1);
        Check.same("match", post.match(0), -1);
        Check.same("lead", post.lead(0, 0, 0), -1);
        Check.same("chain", post.chain(0), -1);
        Check.same("meet", post.meet(0, 1), -1);
        Check.same("dreamt", post.dreamt(0), -1);
        Check.same("tells", post.tells(0, 0), -1);
        Check.same("rests", post.rests(1, 1), -1);
        Check.same("rest", post.rest(1, 1, 0), -1);
        Check.same("brought", post.brought(0), -1);
        Check.same("cost(0)", post.cost(0), 0);
        Check.same("cost(1)", post.cost(1), -1);
        Check.same("need", post.need(), 0);
        Check.same("chance", post.chance(1, 0, 1), -1);
        for (int what = 0; what <= 5; what++) {
            Check.same("tried(" + what + ", 0)", post.tried(what, 0), 0);
        }
        Check.same("tried(6, 0)", post.tried(6, 0), -1);
        Check.same("tried(7, 0)", post.tried(7, 0), -1);
    }

    static void hoursOfANewObjectGoBy() {
        SleepPost post = new SleepPost();
        Check.same("hours(36)", post.hours(36), 0);
        Check.same("keep", post.keep(), 3);
        Check.same("hours(1)", post.hours(1), 1);
        Check.same("back", post.back(), 3);
        Check.same("hour", post.count(6), 0);
    }

    // ---- Promise 2 ----

    static void feedHas700AtMost() {
        SleepPost post = new SleepPost();
        for (int i = 1; i <= 35; i++) {
            Check.same("feed " + i, post.feed(BLANKS, BLANKS, BLANKS, BLANKS, BLANKS), 20 * i);
        }
        Check.same("a 36th", post.feed(BLANKS, BLANKS, BLANKS, BLANKS, BLANKS), -1);
        Check.same("a 37th", post.feed(0, 0, 0, 0, 0), -1);
        Check.same("all 700", post.text(700), 0);
    }

    static void ofARefusedFeedNoneCome() {
        SleepPost post = new SleepPost();
        Check.feed(post, "house a;" + " ".repeat(684) + "house b;");
        Check.same("refused", post.feed(-1, -1, -1, -1, -1), -1);
        Check.same("701 are not there", post.text(701), -2);
        Check.same("as it was", post.text(700), 2);
    }

    static void feedStartsAnewBehindAText() {
        SleepPost post = new SleepPost();
        Check.feed(post, " ".repeat(700));
        post.text(0);
        Check.same("the first", post.feed(BLANKS, BLANKS, BLANKS, BLANKS, BLANKS), 20);
    }

    static void eachNumberHasItsHighestByteFirst() {
        SleepPost post = new SleepPost();
        // "hous" "e ab" "c;ho" "use " "z;  "
        post.feed(0x686f7573, 0x65206162, 0x633b686f, 0x75736520, 0x7a3b2020);
        Check.same("two lines", post.text(20), 2);
        Check.same("abc", post.named(0, 1 << 25 | 2 << 20 | 3 << 15), 0);
        Check.same("z", post.named(0, 26 << 25), 1);
    }

    static void bytesAbove127AreNoTokens() {
        for (int high : new int[] {0x80, 0xa0, 0xe1, 0xff}) {
            SleepPost post = new SleepPost();
            post.feed(high << 24, 0, 0, 0, 0);
            Check.same("a byte of " + high, post.text(1), -1);
            Check.same("its fault", post.fault(0), 1);
            Check.same("its place", post.fault(1), 0);
        }
    }

    // ---- Promise 3 ----

    static void textOf0IsATextWithoutLines() {
        SleepPost post = Check.of(TOWN);
        Check.same("of an empty tape", post.text(0), 0);
        Check.same("no houses", post.count(0), 0);
        Check.feed(post, TOWN);
        Check.same("of a tape with bytes", post.text(0), 0);
        Check.same("no houses", post.count(0), 0);
        Check.same("no fault", post.fault(0), 0);
        Check.same("the tape is empty", post.text(1), -2);
    }

    static void textOfMoreThanThereAreLeavesAll() {
        SleepPost post = busy();
        Check.feed(post, "house z;house w;x");
        Check.refused("21", post, () -> post.text(21), -2);
        Check.refused("MAX", post, () -> post.text(MAX), -2);
        Check.same("the tape stays", post.text(16), 2);
    }

    static void textBelow0LeavesAll() {
        SleepPost post = busy();
        Check.feed(post, "house z;house w;x");
        Check.refused("-1", post, () -> post.text(-1), -2);
        Check.refused("MIN", post, () -> post.text(MIN), -2);
        Check.same("the tape stays", post.text(16), 2);
    }

    static void textOfJustAllThatAreThere() {
        SleepPost post = new SleepPost();
        Check.feed(post, "house a;house b;    ");
        Check.same("21", post.text(21), -2);
        Check.same("20", post.text(20), 2);
    }

    static void whatStandsBehindTheFirstNIsNotRead() {
        SleepPost post = new SleepPost();
        Check.feed(post, "house a;house b;_____________");
        Check.same("the first 8", post.text(8), 1);
        Check.same("one house", post.count(0), 1);
        Check.same("and the tape is empty", post.text(1), -2);
    }

    static void aWordIsCutAtN() {
        SleepPost post = new SleepPost();
        Check.feed(post, "house abcdefghi;     ");
        Check.same("cut in the name", post.text(12), -1);
        Check.same("more must come", post.fault(0), 1);
        Check.same("at the length", post.fault(1), 12);
        Check.feed(post, "house a;cat a;houses ");
        Check.same("cut in a word of the language", post.text(10), -1);
        Check.same("ca is none", post.fault(0), 1);
        Check.same("there", post.fault(1), 8);
        Check.feed(post, "seed 1000000000;     ");
        Check.same("cut in a number", post.text(10), -1);
        Check.same("more must come", post.fault(1), 10);
    }

    static void aSignIsCutAtN() {
        SleepPost post = new SleepPost();
        for (String sign : new String[] {"<=", "<>", ">="}) {
            Check.feed(post, "law pull 1" + sign + "2;");
            Check.same("cut behind its first part", post.text(11), -1);
            Check.same("more must come", post.fault(0), 1);
            Check.same("at the length", post.fault(1), 11);
            Check.feed(post, " ".repeat(689) + "law pull 1" + sign.charAt(0));
            Check.same("at the end of a full tape", post.text(700), -1);
            Check.same("more must come", post.fault(1), 700);
        }
    }

    static void tokensAtTheEndOfAFullTape() {
        String[] ends = {"house a", "house abcdef", "hous", "sleeper", "slee", "a", "law pull deep", "law pull 12", "seed 99999", "law pull ("};
        for (String end : ends) {
            SleepPost post = new SleepPost();
            Check.feed(post, " ".repeat(700 - end.length()) + end);
            Check.same(end, post.text(700), -1);
            Check.same("its fault", post.fault(0), 1);
            Check.same("its place", post.fault(1), end.equals("hous") || end.equals("slee") || end.equals("a") ? 700 - end.length() : 700);
        }
        SleepPost post = new SleepPost();
        Check.feed(post, " ".repeat(692) + "house a;");
        Check.same("a line", post.text(700), 1);
    }

    static void aTextWithAFaultEmptiesTheTape() {
        SleepPost post = new SleepPost();
        Check.feed(post, "house a;house a;house b;");
        Check.same("a fault", post.text(24), -1);
        Check.same("empty", post.text(1), -2);
        Check.same("empty", post.feed(BLANKS, BLANKS, BLANKS, BLANKS, BLANKS), 20);
    }

    static void withAFaultAllStays() {
        for (String text : new String[] {"!", "house a", "house i;street i i 1;", "law pull 1+;", "house z;sleeper z z 3 z;letter z z;lamp z 1 0;"}) {
            SleepPost post = busy();
            Check.refused("text " + text, post, () -> Check.tell(post, text), -1);
            Check.same("undo stays", post.undo(), 1);
            Check.same("the image stays", post.back(), 0);
            Check.same("names stay", post.named(0, 1 << 25), 0);
            Check.same("names stay", post.named(1, 24 << 25), 0);
            Check.same("none comes", post.named(0, 26 << 25), -1);
            Check.same("FAR stays", post.far(0, 2), 4);
        }
    }

    static void withAFaultTheNumbersStay() {
        String text = "house a;sleeper x a 0 a;seed 77;law wake 10;";
        SleepPost one = Check.of(text);
        SleepPost other = Check.of(text);
        one.hours(1);
        other.hours(1);
        Check.same("a fault", Check.tell(one, "seed 9;law wake ;"), -1);
        for (int i = 0; i < 100; i++) {
            Check.same("the same night " + i, one.look(0, 4), other.look(0, 4));
            one.hours(1);
            other.hours(1);
        }
    }

    /** So many texts that each one is read where one ahead was, or one with a fault. */
    static void nothingOfTextsAheadIsLeft() {
        String full = EIGHT + "street a b 5;street b c 9;sleeper x b 1 c;sleeper y a 2 b;letter x a;letter y c;lamp a 0 11;bell a 9;cat a;corner a 9;seed 7;"
            + "law pull light*noise*mail*hour*way;law wake deep<far;law drop 1";
        String[] others = {"", "house a;", "house z;house y;street z y 1;sleeper x y 1 z;letter x z;", "house a;house b;street a b 2;sleeper x a 0 b;law wake 1;",
            "house a;house b;street a b 1;sleeper x b 0 a;letter x b;"};
        for (String other : others) {
            for (int kind = 0; kind < 4; kind++) {
                SleepPost fresh = Check.of(other);
                SleepPost used = new SleepPost();
                Check.tell(used, kind % 2 == 0 ? full + ";" : full + "<(((1<(((1+;");
                Check.tell(used, kind < 2 ? full + ";" : full + "<(((1<(((1+;");
                Check.tell(used, other);
                Check.same(kind + ": state of " + other, Check.state(used).equals(Check.state(fresh)), true);
                Check.same("far", used.far(0, 1), fresh.far(0, 1));
                Check.same("light", used.at(0, 0, 0), fresh.at(0, 0, 0));
                Check.same("the full one again", Check.tell(used, full + ";"), 22);
                Check.tell(used, other);
                Check.tell(used, other);
                for (int hour = 0; hour < 12; hour++) {
                    Check.same("where", used.where(0, hour), fresh.where(0, hour));
                }
                for (int what = 0; what < 3; what++) {
                    Check.same("law", used.law(what, 0, 0), fresh.law(what, 0, 0));
                }
                used.hours(1);
                fresh.hours(1);
                Check.same(kind + ": an hour later", Check.state(used).equals(Check.state(fresh)), true);
            }
        }
    }

    /** A fault in an E leaves brackets open, signs waiting and a comparison behind; the next E knows nothing of it. */
    static void nothingOfAnEWithAFaultIsLeft() {
        SleepPost post = new SleepPost();
        String[] faults = {"law pull ((((((((1;", "law pull 1<2<3;", "law pull not not 1+2*(3<(4 or not;", "law pull 1<2;law wake ;"};
        for (String fault : faults) {
            for (int i = 0; i < 2; i++) {
                Check.same(fault, Check.tell(post, fault), -1);
                Check.same("eight brackets", Check.tell(post, "law wake " + "(".repeat(8) + "1" + ")".repeat(8) + ";"), 1);
                Check.same(fault, Check.tell(post, fault), -1);
                Check.same("a value", Check.tell(post, "house a;sleeper x a 0 a;law pull 7-2*3;law wake 1<2;"), 4);
                Check.same("pull", post.law(0, 0, 0), 1);
                Check.same("wake", post.law(1, 0, 0), 1);
                Check.same(fault, Check.tell(post, fault), -1);
                Check.same("64 knots", Check.tell(post, "law drop not 1" + "+1".repeat(31) + ";"), 1);
            }
        }
    }

    static void eachLawStartsItsOwnE() {
        fine("law pull 1<2;law wake 2<3;law drop 3<4;", 3);
        fine("law pull (1<2)=(2<3);law wake not 1;law drop not 1;", 3);
    }

    static void aTextStartsAtHour0OfNight0() {
        SleepPost post = busy();
        Check.tell(post, TOWN);
        Check.same("HOUR", post.count(6), 0);
        Check.same("NIGHT", post.count(7), 0);
    }

    static void aTextHasAllInBeds() {
        SleepPost post = busy();
        Check.same("away", post.look(0, 0), 1);
        Check.tell(post, TOWN);
        Check.same("x", post.look(0, 0), 0);
        Check.same("y", post.look(1, 0), 1);
        Check.same("nobody woken", post.count(10), 0);
        Check.same("nothing in hand", post.count(9), 0);
        Check.same("nothing arrived", post.count(8), 0);
        Check.same("nobody had it yet", post.letter(1, 3), -1);
        Check.same("it lies by the bed", post.letter(1, 1), 0);
    }

    static void aTextHasNothingLitByCall() {
        SleepPost post = busy();
        Check.tell(post, TOWN);
        Check.same("lit", post.count(11), 0);
        Check.same("LIGHT", post.at(1, 0, 0), 0);
    }

    static void aTextHasBellsAsTold() {
        SleepPost post = busy();
        Check.tell(post, TOWN);
        Check.same("told", post.at(1, 0, 1), 2);
        Check.same("not told", post.at(2, 0, 1), 0);
    }

    static void aTextHasNoSights() {
        SleepPost post = busy();
        Check.tell(post, TOWN);
        Check.same("none", post.count(12), 0);
        Check.same("no strike", post.strike(0), -1);
        Check.same("the first", post.sight(0, 0, 1), 0);
    }

    static void aTextHasAllKnown() {
        SleepPost post = busy();
        Check.tell(post, TOWN);
        Check.same("by none", post.count(13), 0);
        post.sight(0, 0, 1);
        post.sight(0, 0, 1);
        Check.same("also those to come", post.count(13), 2);
    }

    static void aTextHasNoImage() {
        SleepPost post = busy();
        Check.tell(post, TOWN);
        Check.same("back", post.back(), -1);
    }

    static void aTextHasNothingToUndo() {
        SleepPost post = busy();
        Check.tell(post, TOWN);
        Check.same("undo", post.undo(), -1);
        Check.same("count", post.count(14), 0);
    }

    static void aTextHasItsSeedAgain() {
        String text = "house a;sleeper x a 0 a;seed 1;law wake (hour=0)*39;";
        SleepPost post = Check.of(text);
        post.hours(1);
        Check.same("38 is below 39", post.look(0, 4), 1);
        post.hours(12);
        Check.tell(post, text);
        post.hours(1);
        Check.same("38 once more", post.look(0, 4), 1);
    }

    // ---- Promise 4 ----

    static void withoutATextThereIsNoFault() {
        SleepPost post = new SleepPost();
        Check.same("fault(0)", post.fault(0), 0);
        Check.same("fault(1)", post.fault(1), -1);
        post.text(1);
        Check.same("-2 is no text: fault(0)", post.fault(0), 0);
        Check.same("-2 is no text: fault(1)", post.fault(1), -1);
    }

    static void aTextOfMinus2LeavesTheFault() {
        SleepPost post = new SleepPost();
        Check.tell(post, "house a;house a;");
        post.text(1);
        post.text(-1);
        Check.same("fault(0)", post.fault(0), 3);
        Check.same("fault(1)", post.fault(1), 14);
    }

    static void aFaultlessTextEndsTheFault() {
        SleepPost post = new SleepPost();
        Check.tell(post, "house a;house a;");
        post.text(0);
        Check.same("fault(0)", post.fault(0), 0);
        Check.same("fault(1)", post.fault(1), -1);
    }

    static void theLatestFaultIsTold() {
        SleepPost post = new SleepPost();
        Check.tell(post, "house a;house a;");
        Check.tell(post, "cat b;");
        Check.same("fault(0)", post.fault(0), 4);
        Check.same("fault(1)", post.fault(1), 4);
    }

    static void aPlaceOf0IsAPlace() {
        SleepPost post = new SleepPost();
        Check.tell(post, ";");
        Check.same("fault(0)", post.fault(0), 1);
        Check.same("fault(1)", post.fault(1), 0);
    }

    static void aPlaceOf700IsAPlace() {
        SleepPost post = new SleepPost();
        Check.tell(post, "house a" + " ".repeat(693));
        Check.same("fault(0)", post.fault(0), 1);
        Check.same("fault(1)", post.fault(1), 700);
    }

    static void anotherWhatOfFaultIsNone() {
        SleepPost post = new SleepPost();
        Check.tell(post, "house a;house a;");
        for (int what : new int[] {-1, 2, 3, MIN, MAX}) {
            Check.same("fault(" + what + ")", post.fault(what), -1);
        }
    }

    // ---- Promise 5 ----

    private static int letters(String name) {
        int letters = 0;
        for (int i = 0; i < 6; i++) {
            letters = letters * 32 + (i < name.length() ? name.charAt(i) - 'a' + 1 : 0);
        }
        return letters;
    }

    static void namesOfOneToSixLetters() {
        String[] names = {"a", "ab", "abc", "abcd", "abcde", "abcdef", "zzzzzz", "z"};
        StringBuilder text = new StringBuilder();
        for (String name : names) {
            text.append("house ").append(name).append(';');
        }
        SleepPost post = Check.of(text.toString());
        for (int i = 0; i < names.length; i++) {
            Check.same(names[i], post.named(0, letters(names[i])), i);
        }
    }

    static void noLettersAreNone() {
        SleepPost post = Check.of("house a;sleeper a a 0 a;");
        Check.same("house", post.named(0, 0), -1);
        Check.same("sleeper", post.named(1, 0), -1);
    }

    static void lettersThatAreNoNameAreNone() {
        SleepPost post = Check.of("house a;house zzzzzz;sleeper x a 0 a;");
        for (int wrong : new int[] {1, 1 << 20, 1 << 25 | 1, 1 << 25 | 1 << 15, 27 << 25, 1 << 30 | 1 << 25, MIN, MIN | 1 << 25, -1, MAX, letters("zzzzzz") + 1}) {
            Check.same("named(0, " + wrong + ")", post.named(0, wrong), -1);
        }
    }

    static void houseAndSleeperNamesAreOfTheirKind() {
        SleepPost post = Check.of("house a;house b;sleeper b a 0 a;sleeper c a 0 a;");
        Check.same("house b", post.named(0, letters("b")), 1);
        Check.same("sleeper b", post.named(1, letters("b")), 0);
        Check.same("house c", post.named(0, letters("c")), -1);
        Check.same("sleeper a", post.named(1, letters("a")), -1);
    }

    static void theLastOfAFullTextIsNamed() {
        SleepPost post = Check.of(EIGHT + FIVE.substring(8));
        Check.same("the eighth house", post.named(0, letters("h")), 7);
        Check.same("the fifth sleeper", post.named(1, letters("t")), 4);
    }

    static void namesOfATextAheadAreGone() {
        SleepPost post = Check.of(EIGHT);
        Check.tell(post, "house z;");
        Check.same("h", post.named(0, letters("h")), -1);
        Check.same("b", post.named(0, letters("b")), -1);
        Check.same("z", post.named(0, letters("z")), 0);
    }

    static void anotherWhatOfNamedIsNone() {
        SleepPost post = Check.of("house a;sleeper a a 0 a;");
        for (int what : new int[] {-1, 2, 3, MIN, MAX}) {
            Check.same("named(" + what + ", a)", post.named(what, letters("a")), -1);
        }
    }

    // ---- the TEXT: words, numbers, blanks ----

    static void blanksAre10And32Alone() {
        fine("", 0);
        fine(" \n \n", 0);
        fine("\n house \n a \n ; \n", 1);
        for (int sign = 0; sign < 256; sign++) {
            boolean token = sign >= 'a' && sign <= 'z' || sign >= '0' && sign <= '9';
            if (sign != 10 && sign != 32 && !token) {
                Check.fault((char) sign + "house a;", 1, 0);
            }
            if (sign != 10 && sign != 32) {
                Check.fault("house a;" + (char) sign + " house b;", 1, 8);
            }
        }
    }

    static void blanksMustStandBetweenWordsAlone() {
        fine("house a;sleeper x a0a;lamp a0 11;bell a9;seed7;law pull 1and2or not(3)+4;", 6);
        mark("!housea;", 1);
        mark("house a;cat!;", 1);
        mark("house a;lamp a 0!;", 1);
        mark("law pull 12 !3;", 1);
    }

    static void aWordOfSevenLettersIsNoToken() {
        fine("house abcdef;", 1);
        mark("house !abcdefg;", 1);
        mark("!abcdefg a;", 1);
        mark("house a;sleeper !abcdefg a 0 a;", 1);
        mark("house a;cat !abcdefg;", 1);
        mark("law pull !abcdefg;", 1);
        mark("house !abcdef" + "g".repeat(300) + ";", 1);
    }

    static void aWordOfTheLanguageOfSevenLettersIsAToken() {
        fine("house a;sleeper x a 0 a;", 2);
        mark("house !sleeper;", 1);
        mark("!sleepers x a 0 a;", 1);
        mark("!sleepe x a 0 a;", 1);
    }

    static void noWordOfTheLanguageIsAName() {
        for (String word : LANGUAGE.split(" ")) {
            mark("house !" + word + ";", 1);
            mark("house a;sleeper !" + word + " a 0 a;", 1);
            mark("house a;sleeper x !" + word + " 0 a;", 1);
            mark("house a;cat !" + word + ";", 1);
            if (word.length() < 6) {
                fine("house " + word + "x;", 1);
                fine("house x" + word + ";", 1);
            }
            fine("house " + word.substring(1) + ";", 1);
        }
    }

    static void capitalsAreNoLetters() {
        mark("!House a;", 1);
        mark("house !A;", 1);
        mark("house a!B;", 1);
        mark("law pull !Deep;", 1);
    }

    static void lettersEndAtAAndZ() {
        fine("house az;house za;", 2);
        mark("house a!`;", 1);
        mark("house a!{;", 1);
        mark("house a!@;", 1);
    }

    static void digitsEndAt0And9() {
        fine("seed 90;", 1);
        mark("seed 9!/;", 1);
        mark("seed 9!:;", 1);
    }

    static void zerosAheadCountNothing() {
        fine("seed 000000000000000000099999;", 1);
        fine("house a;bell a 00000000000000000000000000000009;", 2);
        mark("seed !0000000000000000000100000;", 2);
        fine("law pull 00009999;", 1);
        mark("law pull !00010000;", 2);
    }

    /** Numbers whose lowest 32 or 64 bits would be right. */
    static void longNumbersDoNotWrapAround() {
        for (String wrap : new String[] {"4294967297", "18446744073709551617", "340282366920938463463374607431768211457", "8589934593", "2147483649"}) {
            mark("house a;house b;street a b !" + wrap + ";", 2);
            mark("house a;sleeper x a !" + wrap + " a;", 2);
            mark("house a;lamp a !" + wrap + " 11;", 2);
            mark("house a;lamp a 0 !" + wrap + ";", 2);
            mark("house a;bell a !" + wrap + ";", 2);
            mark("house a;corner a !" + wrap + ";", 2);
            mark("seed !" + wrap + ";", 2);
            mark("law pull !" + wrap + ";", 2);
        }
        mark("seed !" + "9".repeat(600) + ";", 2);
    }

    static void everyLineEndsWithItsSign() {
        mark("house a!", 1);
        mark("house a !house b;", 1);
        mark("house a;!;", 1);
        mark("!;house a;", 1);
        mark("house a;house b;street a b 1 !2;", 1);
        mark("house a;cat a !a;", 1);
        mark("law pull 1 !1;", 1);
    }

    static void signsOfAnEBelongToALawAlone() {
        for (String sign : new String[] {"(", ")", "+", "-", "*", "/", "<", "<=", "=", "<>", ">=", ">"}) {
            mark("!" + sign + "house a;", 1);
            mark("house !" + sign + "a;", 1);
            mark("house a!" + sign + ";", 1);
            mark("seed !" + sign + "1;", 1);
        }
    }

    static void thePlaceIsTheLengthIfMoreMustCome() {
        String text = "house a;house b;street a b 1;sleeper x a 0 b;letter x b;lamp a 0 11;bell a 1;cat a;corner b 9;seed 0;"
            + "law pull not(deep<=1)and 2-far or light<>3;law wake 1;law drop mail;";
        Matcher token = Pattern.compile("[a-z]+|[0-9]+|<=|<>|>=|[^a-z0-9 ]").matcher(text);
        int lines = 0;
        while (token.find()) {
            String start = text.substring(0, token.end());
            if (token.group().equals(";")) {
                lines++;
                fine(start, lines);
                fine(start + " \n ", lines);
            } else {
                Check.fault(start, 1, start.length());
                Check.fault(start + " \n ", 1, start.length() + 3);
            }
        }
        Check.same("lines", lines, 13);
    }

    // ---- the TEXT: how many there may be ----

    static void eightHouses() {
        fine(EIGHT, 8);
        Check.same("count", Check.of(EIGHT).count(0), 8);
        mark(EIGHT + "!house i;", 2);
        mark(EIGHT + "seed 1;!house i;", 2);
    }

    static void aNinthHouseIsTooMuchAtItsWord() {
        mark(EIGHT + "!house a;", 2);
        mark(EIGHT + "!house 7;", 2);
        mark(EIGHT + "!house", 2);
        mark(EIGHT + "!house abcdefg;", 2);
    }

    static void twelveStreets() {
        fine(TWELVE, 20);
        Check.same("count", Check.of(TWELVE).count(1), 12);
        mark(TWELVE + "!street b h 1;", 2);
        mark(TWELVE + "!street a b 1;", 2);
        mark(TWELVE + "!street z", 2);
    }

    static void fiveSleepers() {
        fine(FIVE, 6);
        Check.same("count", Check.of(FIVE).count(2), 5);
        mark(FIVE + "!sleeper u a 0 a;", 2);
        mark(FIVE + "!sleeper p a 0 a;", 2);
        mark(FIVE + "!sleeper 1", 2);
    }

    static void eightLetters() {
        String eight = FIVE + "letter p a;".repeat(8);
        fine(eight, 14);
        Check.same("count", Check.of(eight).count(3), 8);
        mark(eight + "!letter p a;", 2);
        mark(eight + "!letter z a;", 2);
    }

    static void sixLamps() {
        String six = "house a;" + "lamp a 3 4;".repeat(6);
        fine(six, 7);
        Check.same("count", Check.of(six).count(4), 6);
        mark(six + "!lamp a 3 4;", 2);
        mark(six + "!lamp z 12;", 2);
    }

    static void aBellACatACornerInEachHouse() {
        StringBuilder text = new StringBuilder(EIGHT);
        for (char h = 'a'; h <= 'h'; h++) {
            text.append("bell ").append(h).append(" 9;cat ").append(h).append(";corner ").append(h).append(" 9;");
        }
        fine(text.toString(), 32);
        Check.same("the last house", Check.of(text.toString()).at(7, 0, 1), 21);
    }

    // ---- the TEXT: numbers beyond what is said ----

    /** In the text, N is the number: one less than the least and one more than the greatest are too much, at it. */
    private static void bounds(String text, int least, int most) {
        fine(text.replace("N", "" + least), text.split(";").length);
        fine(text.replace("N", "" + most), text.split(";").length);
        mark(text.replace("N", "!" + (most + 1)), 2);
        if (least > 0) {
            mark(text.replace("N", "!" + (least - 1)), 2);
        }
    }

    static void lengthIs1To9() {
        bounds("house a;house b;street a b N;", 1, 9);
    }

    static void deepIs0To9() {
        bounds("house a;sleeper x a N a;", 0, 9);
        Check.same("0", Check.of("house a;sleeper x a 0 a;").look(0, 3), 0);
        Check.same("9", Check.of("house a;sleeper x a 9 a;").look(0, 3), 9);
    }

    static void aLampIsFromHour0To11() {
        bounds("house a;lamp a N 11;", 0, 11);
    }

    static void aLampIsToAnHourNotBelow() {
        bounds("house a;lamp a 0 N;", 0, 11);
        bounds("house a;lamp a 5 N;", 5, 11);
        bounds("house a;lamp a 11 N;", 11, 11);
    }

    static void aBellIsLoud1To9() {
        bounds("house a;bell a N;", 1, 9);
    }

    static void aSingerIsLoud1To9() {
        bounds("house a;corner a N;", 1, 9);
    }

    static void aSeedIs0To99999() {
        bounds("seed N;", 0, 99999);
    }

    static void aNumberOfEIs0To9999() {
        bounds("law pull N;", 0, 9999);
        bounds("law wake 1+(N);", 0, 9999);
        bounds("law drop not N;", 0, 9999);
    }

    static void noNumberIsBelow0() {
        mark("seed !-1;", 1);
        mark("law pull !-1;", 1);
        mark("house a;bell a !-1;", 1);
    }

    // ---- the TEXT: brackets and KNOTS ----

    static void eightBracketsOpen() {
        fine("law pull " + "(".repeat(8) + "1" + ")".repeat(8) + ";", 1);
        mark("law pull " + "(".repeat(8) + "!(1", 2);
        mark("law pull " + "(".repeat(8) + "!(", 2);
    }

    static void closedBracketsDoNotCount() {
        String seven = "(".repeat(7) + "1" + ")".repeat(7);
        fine("law pull (" + seven + "+" + seven + ");", 1);
        fine("law pull (" + seven + "+(" + seven.substring(1) + ");", 1);
        mark("law pull (" + seven + "+(" + seven.substring(0, 6) + "!(1", 2);
        fine("law pull " + "(1)+".repeat(20) + "(1);law wake " + "(".repeat(8) + "1" + ")".repeat(8) + ";", 2);
    }

    static void bracketsOfALawAheadDoNotCount() {
        String eight = "(".repeat(8) + "1" + ")".repeat(8) + ";";
        fine("law pull " + eight + "law wake " + eight + "law drop " + eight, 3);
    }

    static void sixtyFourKnotsOfOneE() {
        fine("law pull not 1" + "+1".repeat(31) + ";", 1);
        Check.same("count", Check.of("law pull not 1" + "+1".repeat(31) + ";").count(5), 64);
        mark("law pull not 1" + "+1".repeat(31) + "!+1;", 2);
        mark("law pull not not 1" + "+1".repeat(30) + "+!1;", 2);
    }

    static void sixtyFourKnotsOfAllE() {
        String most = "law pull 1" + "+1".repeat(20) + ";law wake 1" + "+1".repeat(10) + ";law drop ";
        Check.same("count", Check.of(most + "0;").count(5), 63);
        fine(most + "not 0;", 3);
        mark(most + "0+!1;", 2);
        mark(most + "not 0!+1;", 2);
    }

    static void everyKindOfKnotCountsOne() {
        String[] knots = {"deep", "far", "light", "noise", "mail", "hour", "way", "0", "9999"};
        for (String knot : knots) {
            Check.same(knot, Check.of("law pull " + knot + ";").count(5), 1);
        }
        for (String sign : new String[] {"+", "-", "*", "/", "<", "<=", "=", "<>", ">=", ">", " and ", " or "}) {
            Check.same(sign, Check.of("law pull 1" + sign + "2;").count(5), 3);
        }
        Check.same("not", Check.of("law pull not 1;").count(5), 2);
        Check.same("brackets", Check.of("law pull ((1));").count(5), 1);
    }

    static void everyKindOfKnotIsTooMuchAsA65th() {
        String full = "law pull not 1" + "+1".repeat(31);
        for (String sign : new String[] {"+", "-", "*", "/", "<", "<=", "=", "<>", ">=", ">", " and ", " or "}) {
            mark(full + " !" + sign.trim() + " 1;", 2);
        }
        String side = "law pull 1" + "+1".repeat(31) + " or ";
        for (String knot : new String[] {"deep", "far", "light", "noise", "mail", "hour", "way", "0", "9999", "10000", "not 1"}) {
            mark(side + "!" + knot + ";", 2);
        }
    }

    static void bracketsAreNoKnots() {
        String full = "law pull not 1" + "+(1)".repeat(31);
        fine(full + ";", 1);
        mark("law pull 1" + "+1".repeat(31) + "+(!1);", 2);
    }

    static void knotsOfATextAheadDoNotCount() {
        String full = "law pull not 1" + "+1".repeat(31) + ";";
        SleepPost post = Check.of(full);
        Check.same("again", Check.tell(post, full), 1);
        Check.same("a fault", Check.tell(post, full + "law wake 1;"), -1);
        Check.same("again", Check.tell(post, full), 1);
        Check.same("count", post.count(5), 64);
    }

    // ---- the TEXT: told already, not told ahead, to itself ----

    static void aHouseIsToldOnce() {
        mark("house a;house !a;", 3);
        mark("house a;house b;house !b", 3);
        fine("house a;house aa;", 2);
    }

    static void aSleeperIsToldOnce() {
        mark("house a;sleeper x a 0 a;sleeper !x a 0 a;", 3);
        mark("house a;sleeper x a 0 a;sleeper !x z 10;", 3);
        fine("house x;sleeper x x 0 x;", 2);
    }

    static void aStreetOfTwoHousesIsToldOnceEitherWay() {
        mark("house a;house b;street a b 1;street a !b 1;", 3);
        mark("house a;house b;street a b 1;street b !a 2;", 3);
        mark("house a;house b;street b a 9;street a !b", 3);
        fine("house a;house b;house c;street a b 1;street b c 1;street c a 1;", 6);
    }

    static void aBellOfAHouseIsToldOnce() {
        mark("house a;bell a 1;bell !a 1;", 3);
        mark("house a;bell a 1;bell !a 0;", 3);
    }

    static void aCatOfAHouseIsToldOnce() {
        mark("house a;cat a;cat !a;", 3);
        mark("house a;house b;cat b;cat a;cat !b", 3);
    }

    static void aCornerOfAHouseIsToldOnce() {
        mark("house a;corner a 1;corner !a 1;", 3);
        mark("house a;corner a 1;corner !a x;", 3);
    }

    static void aSeedIsToldOnceAtItsWord() {
        mark("seed 1;!seed 1;", 3);
        mark("seed 0;house a;!seed x;", 3);
        mark("seed 0;!seed", 3);
    }

    static void aLawOfARuleIsToldOnceAtTheRule() {
        for (String rule : new String[] {"pull", "wake", "drop"}) {
            mark("law " + rule + " 1;law !" + rule + " 2;", 3);
            mark("law " + rule + " 1;law !" + rule, 3);
        }
        fine("law drop 1;law wake 1;law pull 1;", 3);
    }

    static void lettersAndLampsMayBeLike() {
        fine("house a;sleeper x a 0 a;letter x a;letter x a;lamp a 1 2;lamp a 1 2;", 6);
    }

    static void everyHouseMustBeToldAhead() {
        mark("house b;street !a b 1;house a;", 4);
        mark("house a;street a !b 1;house b;", 4);
        mark("sleeper x !a 0 a;", 4);
        mark("house a;sleeper x a 0 !b;house b;", 4);
        mark("house a;sleeper x a 0 a;letter x !b;", 4);
        mark("lamp !a 0 1;", 4);
        mark("bell !a 1;", 4);
        mark("cat !a;", 4);
        mark("corner !a 1;", 4);
    }

    static void aSleeperMustBeToldAhead() {
        mark("house a;letter !x a;sleeper x a 0 a;", 4);
        mark("house a;letter !a a;", 4);
        mark("house a;sleeper x a 0 a;letter !a a;", 4);
    }

    static void aHouseIsNotToldByANameThatStartsSo() {
        mark("house ab;cat !a;", 4);
        mark("house ab;cat !abc;", 4);
    }

    static void aStreetToItselfIsAFaultAtTheSecondHouse() {
        mark("house a;street a !a 1;", 5);
        mark("house a;street a !a 0;", 5);
        mark("house a;street a !a", 5);
    }

    // ---- FAULTS: the first along the text, of one place the least ----

    static void theFirstAlongTheTextCounts() {
        mark("house a;cat !b;house a;street a a 0;", 4);
        mark("house a;street a !a 0;cat b;", 5);
        mark("house a;bell a !0;house a;", 2);
        mark("house a;house !a;_", 3);
        mark("!_house a;house a;", 1);
        mark("house a;sleeper x a !10 b;", 2);
        mark("house a;sleeper x !b 10 b;", 4);
    }

    static void ofOnePlace1IsAheadOf2() {
        String full = "law pull not 1" + "+1".repeat(31);
        mark(full + "!not 1;", 1);
        mark(full + " !deep;", 1);
        mark(full + " !1;", 1);
        mark(full + "!(1);", 1);
        mark("law pull 1" + "+1".repeat(31) + " or !+1;", 1);
        mark("law pull " + "(".repeat(8) + "1!(", 1);
        mark("law pull 1" + "+1".repeat(31) + "+!not 1;", 1);
        mark("law pull 1<2" + "+1".repeat(30) + "!<1;", 1);
    }

    static void ofOnePlace1IsAheadOf4() {
        mark("cat !abcdefg;", 1);
        mark("cat !cat;", 1);
        mark("house a;letter !letter a;", 1);
    }

    static void ofOnePlace3StandsWithout4And5() {
        mark("house a;house b;street a b 1;street b !a 10;", 3);
        mark("house a;house b;street a b 1;street b !b 1;", 5);
    }

    // ---- E ----

    static void aComparisonHasTwoSidesAtMost() {
        for (String sign : new String[] {"<", "<=", "=", "<>", ">=", ">"}) {
            fine("law pull 1" + sign + "2;", 1);
            mark("law pull 1" + sign + "2!" + sign + "3;", 1);
            mark("law pull 1" + sign + "2+3!" + sign + "4;", 1);
            mark("law pull not 1" + sign + "2!" + sign + "4;", 1);
            fine("law pull (1" + sign + "2)" + sign + "3;", 1);
            fine("law pull 1" + sign + "(2" + sign + "3);", 1);
            fine("law pull 1" + sign + "2 and 2" + sign + "3 or 3" + sign + "4;", 1);
            mark("law pull (1)" + sign + "2 and 1" + sign + "(2" + sign + "3)!" + sign + "3;", 1);
        }
    }

    static void notStandsAtTheStartOfABAlone() {
        fine("law pull not not not 1;", 1);
        fine("law pull 1 and not 2 or not 3;", 1);
        fine("law pull (not 1)+(not 2);", 1);
        for (String sign : new String[] {"+", "-", "*", "/", "<", "<=", "=", "<>", ">=", ">"}) {
            mark("law pull 1" + sign + "!not 2;", 1);
        }
        mark("law pull 1 !not;", 1);
    }

    static void aRuleIsPullWakeOrDropAlone() {
        for (String word : LANGUAGE.split(" ")) {
            if (word.equals("pull") || word.equals("wake") || word.equals("drop")) {
                fine("law " + word + " 1;", 1);
            } else {
                mark("law !" + word + " 1;", 1);
            }
        }
        mark("law !x 1;", 1);
        mark("law !1;", 1);
        mark("law !;", 1);
        mark("law!", 1);
    }

    static void onlyTenWordsStartALine() {
        String lines = " house street sleeper letter lamp bell cat corner seed law ";
        for (String word : LANGUAGE.split(" ")) {
            mark(lines.contains(" " + word + " ") ? word + "!;" : "!" + word + ";", 1);
        }
    }

    static void namesAndNumbersOfAnEAlone() {
        String names = " deep far light noise mail hour way not ";
        for (String word : LANGUAGE.split(" ")) {
            mark(names.contains(" " + word + " ") ? "law pull 1+(" + word + "!" : "law pull 1+(!" + word, 1);
        }
    }

    static void aSignRightBehindBelongsToIt() {
        Check.same("<=", Check.of("law pull 1<=2;").count(5), 3);
        Check.same(">=", Check.of("law pull 1>=2;").count(5), 3);
        Check.same("<>", Check.of("law pull 1<>2;").count(5), 3);
        mark("law pull 1< !=2;", 1);
        mark("law pull 1> !=2;", 1);
        mark("law pull 1< !>2;", 1);
        mark("law pull 1>!>2;", 1);
        mark("law pull 1<!<2;", 1);
        mark("law pull 1=!=2;", 1);
        mark("law pull 1=!<2;", 1);
        mark("law pull 1=!>2;", 1);
        mark("law pull 1<=!=2;", 1);
        mark("law pull 1<>!=2;", 1);
        mark("law pull 1<\n!=2;", 1);
    }

    static void aSignAtTheVeryEnd() {
        Check.fault("law pull 1<", 1, 11);
        Check.fault("law pull 1>", 1, 11);
        Check.fault("law pull 1<=", 1, 12);
    }

    static void bracketsMustFit() {
        mark("law pull (1!;", 1);
        mark("law pull 1!);", 1);
        mark("law pull (!);", 1);
        mark("law pull ((1)!;", 1);
        mark("law pull (1)!);", 1);
        mark("law pull (1 !1);", 1);
    }

    static void anEMustNotBeEmpty() {
        mark("law pull!;", 1);
        mark("law pull 1+!;", 1);
        mark("law pull 1 and !;", 1);
        mark("law pull not !;", 1);
        mark("law pull !+1;", 1);
    }
}
