/** The promises one by one: ordinary inputs, edges and wrong ones. Texts with a FAULT are in FaultsTest. */
public final class PromisesTest {
    private static final int MIN = Integer.MIN_VALUE;
    private static final int MAX = Integer.MAX_VALUE;
    /** Four houses in a row, a b c d, with streets of 1, 2, 3. */
    private static final String ROW = "house a;house b;house c;house d;street a b 1;street b c 2;street c d 3;";

    public static void main(String[] args) {
        newObject();
        tape();
        named();
        look();
        letter();
        far();
        at();
        law();
        lawErrors();
        lay();
        litAndBell();
        hours();
        numbers();
        order();
        where();
        match();
        lead();
        chain();
        meet();
        sights();
        dreamt();
        rests();
        brought();
        costAndNeed();
        chance();
        longChance();
        tried();
        undo();
        images();
        count();
        toldAnew();
        Check.end("PromisesTest");
    }

    private static void newObject() {
        SleepPost post = new SleepPost();
        for (int what = 0; what <= 14; what++) {
            Check.same("count of a new object " + what, post.count(what), 0);
        }
        Check.same("NONE", SleepPost.NONE, -1);
        Check.same("an empty tape", post.text(1), -2);
        Check.same("no fault", post.fault(0), 0);
        Check.same("no place", post.fault(1), -1);
        Check.same("no image", post.back(), -1);
        Check.same("hours of nobody", post.hours(13), 1);
    }

    private static void tape() {
        SleepPost post = new SleepPost();
        int b = ' ' << 24 | ' ' << 16 | ' ' << 8 | ' ';
        for (int i = 1; i <= 35; i++) {
            Check.same("feed " + i, post.feed(b, b, b, b, b), 20 * i);
        }
        Check.same("a 36th feed", post.feed(b, b, b, b, b), -1);
        Check.same("text(701)", post.text(701), -2);
        Check.same("text(MAX)", post.text(MAX), -2);
        Check.same("text(MIN)", post.text(MIN), -2);
        Check.same("text(700)", post.text(700), 0);
        Check.same("the tape is empty", post.feed(b, b, b, b, b), 20);
        Check.same("the tape is emptied by less", post.text(3), 0);
        Check.same("text(1) of an empty tape", post.text(1), -2);
        // The highest byte comes first: "hous" "e ab" ";" and what stands behind the n bytes isn't read.
        Check.same("feed", post.feed('h' << 24 | 'o' << 16 | 'u' << 8 | 's', 'e' << 24 | ' ' << 16 | 'a' << 8 | 'b', ';' << 24, -1, -1), 20);
        Check.same("text(9)", post.text(9), 1);
        Check.same("named ab", post.named(0, 1 << 25 | 2 << 20), 0);
    }

    private static void named() {
        SleepPost post = Check.of("house a;house zzzzzz;house abcdef;sleeper b a 0 a;sleeper a a 0 a;");
        Check.same("a", post.named(0, 1 << 25), 0);
        Check.same("zzzzzz", post.named(0, 26 << 25 | 26 << 20 | 26 << 15 | 26 << 10 | 26 << 5 | 26), 1);
        Check.same("abcdef", post.named(0, 1 << 25 | 2 << 20 | 3 << 15 | 4 << 10 | 5 << 5 | 6), 2);
        Check.same("sleeper a", post.named(1, 1 << 25), 1);
        Check.same("sleeper b", post.named(1, 2 << 25), 0);
        Check.same("house b", post.named(0, 2 << 25), -1);
        Check.same("a at the lowest", post.named(0, 1), -1);
        Check.same("no letters", post.named(0, 0), -1);
        Check.same("what 2", post.named(2, 1 << 25), -1);
        Check.same("what -1", post.named(-1, 1 << 25), -1);
    }

    private static void look() {
        SleepPost post = Check.of(ROW + "sleeper x b 7 d;sleeper y a 2 d;letter x d;letter x d;letter y a;bell b 3;");
        post.hours(1);
        int[] dueX = {2, 1, 3, 7, 0, 3};
        int[] dueY = {1, 0, 3, 2, 1, 0};
        for (int what = 0; what < 6; what++) {
            Check.same("look(0, " + what + ")", post.look(0, what), dueX[what]);
            Check.same("look(1, " + what + ")", post.look(1, what), dueY[what]);
        }
        Check.same("look(2, 0) throws", Check.lookThrows(post, 2, 0), 1);
        Check.same("look(-1, 0) throws", Check.lookThrows(post, -1, 0), 1);
        Check.same("look(0, 6) throws", Check.lookThrows(post, 0, 6), 2);
        Check.same("look(0, -1) throws", Check.lookThrows(post, 0, -1), 2);
        Check.same("look(2, 6) throws", Check.lookThrows(post, 2, 6), 1);
        Check.same("look(0, 5) doesn't", Check.lookThrows(post, 0, 5), 0);
    }

    private static void letter() {
        SleepPost post = Check.of(ROW + "sleeper x a 5 d;sleeper y d 5 d;letter x b;letter x d;letter y a;law drop hour=9 and far=0;");
        Check.same("laid", post.letter(1, 1), 0);
        Check.same("lies", post.letter(1, 2), 0);
        Check.same("nobody yet", post.letter(1, 3), -1);
        post.hours(1);
        Check.same("for which", post.letter(0, 0), 1);
        Check.same("arrived where", post.letter(0, 1), 1);
        Check.same("arrived", post.letter(0, 2), 2);
        Check.same("who had it", post.letter(0, 3), 0);
        Check.same("in whose hand", post.letter(2, 1), 1);
        Check.same("in hand", post.letter(2, 2), 1);
        Check.same("has it", post.letter(2, 3), 1);
        post.hours(9);
        Check.same("let go in d", post.letter(2, 1), 3);
        Check.same("lies", post.letter(2, 2), 0);
        Check.same("who had it", post.letter(2, 3), 1);
        for (int wrong : new int[] {-1, 3, MIN, MAX}) {
            Check.same("letter(" + wrong + ", 0)", post.letter(wrong, 0), -1);
        }
        Check.same("letter(0, 4)", post.letter(0, 4), -1);
        Check.same("letter(0, -1)", post.letter(0, -1), -1);
    }

    private static void far() {
        SleepPost post = Check.of("house a;house b;house c;house d;street a b 9;street a c 3;street c b 4;");
        Check.same("round is nearer", post.far(0, 1), 7);
        Check.same("either way", post.far(1, 0), 7);
        Check.same("itself", post.far(2, 2), 0);
        Check.same("no way", post.far(0, 3), 99);
        Check.same("no house", post.far(0, 4), -1);
        Check.same("no house", post.far(-1, 0), -1);
        SleepPost row = Check.of("house a;house b;house c;house d;house e;house f;house g;house h;street a b 9;street b c 9;"
            + "street c d 9;street d e 9;street e f 9;street f g 9;street g h 9;");
        Check.same("the longest", row.far(7, 0), 63);
    }

    private static void at() {
        SleepPost post = Check.of("house a;house b;lamp a 2 4;lamp a 6 6;lamp b 0 11;lamp a 11 11;bell a 5;corner a 4;cat a;cat b;");
        for (int hour = 0; hour < 12; hour++) {
            Check.same("light " + hour, post.at(0, hour, 0), hour >= 2 && hour <= 4 || hour == 6 || hour == 11 ? 1 : 0);
            Check.same("light of b " + hour, post.at(1, hour, 0), 1);
            Check.same("noise " + hour, post.at(0, hour, 1), 12);
        }
        Check.same("noise of a cat", post.at(1, 0, 1), 3);
        post.lit(0, true);
        Check.same("lit by call", post.at(0, 10, 0), 1);
        post.bell(0, 0);
        Check.same("bell off", post.at(0, 0, 1), 7);
        Check.same("hour 12", post.at(0, 12, 0), -1);
        Check.same("hour -1", post.at(0, -1, 1), -1);
        Check.same("house 2", post.at(2, 0, 0), -1);
        Check.same("house -1", post.at(-1, 0, 0), -1);
        Check.same("what 2", post.at(0, 0, 2), -1);
        Check.same("what -1", post.at(0, 0, -1), -1);
    }

    private static long value(String e) {
        SleepPost post = Check.of(ROW + "sleeper x a 7 d;letter x d;letter x d;letter x b;lamp c 1 1;bell c 4;cat c;law pull " + e + ";");
        post.hours(1);
        return post.law(0, 0, 2);
    }

    /** Behind one hour x stands in b with two letters, and c is two away, lit, with a bell and a cat. */
    private static void law() {
        String text = ROW + "sleeper x a 7 d;letter x d;letter x d;letter x b;lamp c 1 1;bell c 4;cat c;";
        String names = "deep*1000*1000+far*1000*100+light*1000*10+noise*1000+mail*100+hour*10+way";
        SleepPost post = Check.of(text + "law pull 0-far;law wake " + names + ";law drop " + "way;");
        post.hours(1);
        Check.same("wake of names, way 0, all let go", post.law(1, 0, 2), 7317010);
        Check.same("drop: way is 0", post.law(2, 0, 2), 0);
        SleepPost woken = Check.of(text + "law wake 0;law pull (0-far)*1000*1000*100+" + names + ";");
        woken.hours(1);
        Check.same("pull of names", woken.law(0, 0, 2), -300000000L + 7317212);
        Check.same("pull where one stands", woken.law(0, 0, 1), -500000000L + 7500210);
        Check.same("pull without a street", woken.law(0, 0, 3), 7000210);
        Check.same("no law", woken.law(2, 0, 0), Long.MIN_VALUE);
        Check.same("what 3", woken.law(3, 0, 0), Long.MIN_VALUE);
        Check.same("what -1", woken.law(-1, 0, 0), Long.MIN_VALUE);
        Check.same("sleeper 1", woken.law(0, 1, 0), Long.MIN_VALUE);
        Check.same("house 4", woken.law(0, 0, 4), Long.MIN_VALUE);
        Check.same("house -1", woken.law(0, 0, -1), Long.MIN_VALUE);
        Check.same("to the left", value("100-10-1"), 89);
        Check.same("to the left", value("100/7/2"), 7);
        Check.same("cut towards 0", value("(0-7)/2"), -3);
        Check.same("* ahead of +", value("2+3*4"), 14);
        Check.same("brackets", value("(2+3)*4"), 20);
        Check.same("not binds less than <", value("not 1<0"), 1);
        Check.same("not binds more than and", value("not 0 and 0"), 0);
        Check.same("and ahead of or", value("1 or 1 and 0"), 1);
        Check.same("not is 1 or 0", value("not not 5"), 1);
        Check.same("not of what isn't 0", value("not 5"), 0);
        Check.same("and is 1 or 0", value("5 and 3"), 1);
        Check.same("or is 1 or 0", value("0 or 3"), 1);
        Check.same("or of none", value("0 or 0"), 0);
        Check.same("+ ahead of <", value("1+1<2"), 0);
        Check.same("<=", value("(2<=2)*10+(3<=2)"), 10);
        Check.same(">=", value("(2>=2)*10+(2>=3)"), 10);
        Check.same("=", value("(2=2)*10+(2=3)"), 10);
        Check.same("<>", value("(2<>3)*10+(2<>2)"), 10);
        Check.same("<", value("(2<3)*10+(2<2)"), 10);
        Check.same(">", value("(3>2)*10+(2>2)"), 10);
        Check.same("blanks between", value("2\n+ 2"), 4);
    }

    private static void lawErrors() {
        long error = Long.MIN_VALUE;
        Check.same("/ by 0", value("1/0"), error);
        Check.same("/ by what is 0", value("1/(deep-7)"), error);
        Check.same("both sides of or", value("1 or 1/0"), error);
        Check.same("both sides of and", value("0 and 1/0"), error);
        Check.same("not of an error", value("not (1/0)"), error);
        Check.same("0 times an error", value("0*(1/0)"), error);
        String million = "1000*1000";
        Check.same("10 to the 12", value(million + "*" + million), 1000000000000L);
        Check.same("10 to the 12 by +", value("(" + million + "*" + million + "-1)+1"), 1000000000000L);
        Check.same("above", value(million + "*" + million + "+1"), error);
        Check.same("below 0", value("0-" + million + "*" + million), -1000000000000L);
        Check.same("below that", value("0-" + million + "*" + million + "-1"), error);
        Check.same("a part above", value("(" + million + "*" + million + "+1)-5"), error);
        Check.same("far above", value("(" + million + "*" + million + ")*(" + million + "*" + million + ")"), error);
        Check.same("far above, both below 0", value("(0-" + million + "*" + million + ")*(0-" + million + "*" + million + ")"), error);
        Check.same("just above by *", value("(" + million + "*" + million + ")*2"), error);
        Check.same("times 0", value("(" + million + "*" + million + ")*0"), 0);
        // With an ERROR pull is 100 less far: x walks the row to d.
        SleepPost post = Check.of(ROW + "sleeper x a 0 d;law pull 1/0;law wake 1/0;law drop 1/0;cat c;letter x d;letter x b;");
        Check.same("walks on", post.where(0, 0), 1);
        Check.same("woken by the cat", post.where(0, 11), 2);
        post.hours(2);
        Check.same("an error of drop lets nothing go but the waking does", post.letter(0, 2), 0);
        Check.same("woken", post.look(0, 4), 1);
    }

    private static void lay() {
        SleepPost post = Check.of(ROW + "sleeper x a 5 d;sleeper y d 5 d;sleeper z a 5 a;letter x b;letter x d;");
        Check.same("by another bed", post.lay(0, 1), true);
        Check.same("there it lies", post.letter(0, 1), 3);
        Check.same("nobody had it", post.letter(0, 3), -1);
        Check.same("there already", post.lay(0, 1), false);
        Check.same("another bed in that house", post.lay(1, 2), false);
        Check.same("no letter", post.lay(2, 0), false);
        Check.same("no letter", post.lay(-1, 0), false);
        Check.same("no sleeper", post.lay(0, 3), false);
        Check.same("no sleeper", post.lay(0, -1), false);
        post.hours(1);
        Check.same("in hand", post.lay(0, 0), false);
        Check.same("in hand", post.lay(1, 1), false);
        post.hours(4);
        Check.same("arrived", post.letter(1, 2), 2);
        Check.same("arrived", post.lay(1, 0), false);
    }

    private static void litAndBell() {
        SleepPost post = Check.of("house a;house b;lamp a 0 11;bell a 4;");
        Check.same("not lit by call", post.lit(0, false), false);
        Check.same("lit though there is a lamp", post.lit(0, true), true);
        Check.same("it is so", post.lit(0, true), false);
        Check.same("bits", post.count(11), 1);
        Check.same("no more", post.lit(0, false), true);
        Check.same("the lamp is still there", post.at(0, 3, 0), 1);
        Check.same("house 2", post.lit(2, true), false);
        Check.same("house -1", post.lit(-1, true), false);
        Check.same("it is so", post.bell(0, 4), false);
        Check.same("louder", post.bell(0, 9), true);
        Check.same("noise", post.at(0, 0, 1), 9);
        Check.same("none", post.bell(0, 0), true);
        Check.same("there is none", post.bell(1, 0), false);
        Check.same("a new one", post.bell(1, 1), true);
        Check.same("loud 10", post.bell(0, 10), false);
        Check.same("loud -1", post.bell(0, -1), false);
        Check.same("house 2", post.bell(2, 1), false);
        Check.same("house -1", post.bell(-1, 1), false);
    }

    private static void hours() {
        SleepPost post = Check.of(ROW + "sleeper x a 5 d;sleeper y d 0 a;cat c;letter x c;letter y a;");
        Check.same("none", post.hours(0), 0);
        Check.same("hours(37)", post.hours(37), -1);
        Check.same("hours(-1)", post.hours(-1), -1);
        Check.same("hours(MIN)", post.hours(MIN), -1);
        Check.same("hours(1)", post.hours(1), 1);
        Check.same("y is woken in c", post.look(1, 4), 1);
        Check.same("and let go", post.letter(1, 1), 2);
        Check.same("it lies", post.letter(1, 2), 0);
        Check.same("hours(10)", post.hours(10), 11);
        Check.same("x in d", post.look(0, 0), 3);
        Check.same("y stays", post.look(1, 0), 2);
        Check.same("hours(1)", post.hours(1), 0);
        Check.same("night", post.count(7), 1);
        Check.same("x in bed", post.look(0, 0), 0);
        Check.same("y in bed", post.look(1, 0), 3);
        Check.same("nobody woken", post.count(10), 0);
        Check.same("the letter lies in c", post.letter(1, 1), 2);
        Check.same("hours(36)", post.hours(36), 0);
        Check.same("night", post.count(7), 4);
        for (int i = 0; i < 331; i++) {
            post.hours(36);
        }
        Check.same("night 997", post.count(7), 997);
        Check.same("to night 1000", post.hours(36), -1);
        Check.same("none went by", post.count(7) * 12 + post.count(6), 997 * 12);
        Check.same("to the last hour", post.hours(35), 11);
        Check.same("night 999", post.count(7), 999);
        Check.same("no more", post.hours(1), -1);
        Check.same("none is fine", post.hours(0), 11);
    }

    /** Numbers from 1 on: 16838, 5758, 10113, 17515, 31051, 5627; so modulo 100: 38, 58, 13, 15, 51, 27. */
    private static void numbers() {
        String text = "house a;sleeper x a 0 a;seed 1;law wake ";
        int[] below = {38, 58, 13, 15, 51, 27};
        for (int hour = 0; hour < 6; hour++) {
            // Only in one hour there is a chance, so it has the first number.
            SleepPost post = Check.of(text + "(hour=" + hour + ")*39;");
            post.hours(hour + 1);
            Check.same("38 is below 39", post.look(0, 4), 1);
            post = Check.of(text + "(hour=" + hour + ")*38;");
            post.hours(hour + 1);
            Check.same("38 is not below 38", post.look(0, 4), 0);
        }
        // 13 and 15 are the third and fourth ones; 1 in each hour ahead draws one number.
        for (int hour = 0; hour < 6; hour++) {
            SleepPost post = Check.of(text + "1+(hour=" + hour + ")*" + below[hour] + ";");
            post.hours(hour + 1);
            Check.same("number " + hour + " is below", post.look(0, 4), 1);
            post = Check.of(text + "1+(hour=" + hour + ")*(" + below[hour] + "-1);");
            post.hours(hour + 1);
            Check.same("number " + hour + " is not", post.look(0, 4), 0);
        }
        // No number for 0 and less, 100 and more: y, who is woken at once, takes none ahead of x.
        for (String wake : new String[] {"100", "500"}) {
            SleepPost post = Check.of("house a;sleeper y a 9 a;sleeper x a 0 a;seed 1;law wake (deep=9)*" + wake + "+(deep=0)*(hour=1)*39;");
            post.hours(2);
            Check.same("woken by the first number", post.count(10), 2);
        }
        SleepPost post = Check.of("house a;sleeper x a 0 a;seed 1;law wake (hour=3)*40-1;");
        post.hours(4);
        Check.same("below 0 takes none", post.look(0, 4), 1);
        // Without a seed it is 0, which gives 12345, by 65536.
        SleepPost none = Check.of("house a;sleeper x a 0 a;law wake 1;");
        none.hours(1);
        Check.same("the first number of 0 is 0", none.look(0, 4), 1);
        // As it goes it hangs on 50.
        Check.same("49", Check.of(ROW + "sleeper x a 0 d;law wake 49;").where(0, 11), 3);
        Check.same("50", Check.of(ROW + "sleeper x a 0 d;law wake 50;").where(0, 11), 1);
    }

    /** One after another: what x lets go in y's house is in y's hand the same hour; not the other way round. */
    private static void order() {
        String two = "house a;house b;house c;street a b 1;street b c 1;";
        SleepPost post = Check.of(two + "sleeper x a 9 b;sleeper y b 9 c;letter x c;law drop far=0 and deep=9 and hour=0;");
        post.hours(1);
        Check.same("arrived by y", post.letter(0, 2), 2);
        Check.same("y had it last", post.letter(0, 3), 1);
        post = Check.of(two + "sleeper y b 9 b;sleeper x a 9 b;letter x c;law drop far=0 and deep=9 and hour=0;");
        post.hours(1);
        Check.same("it lies in b", post.letter(0, 1), 1);
        Check.same("it lies", post.letter(0, 2), 0);
        post.hours(1);
        Check.same("y takes it", post.letter(0, 2), 1);
        Check.same("y has it", post.letter(0, 1), 0);
        // Of like pulls one stays; else it is the least number.
        Check.same("stays", Check.of(two + "sleeper x b 0 a;law pull 5;").where(0, 0), 1);
        Check.same("the least", Check.of(two + "sleeper x b 0 a;law pull way;").where(0, 0), 0);
        Check.same("the greatest", Check.of(two + "sleeper x b 0 a;law pull way+light;lamp c 0 0;").where(0, 0), 2);
        // A letter for the house of the bed arrives if one stays, not if one walks.
        post = Check.of(two + "sleeper x a 0 a;letter x a;");
        Check.same("laid is not arrived", post.letter(0, 2), 0);
        post.hours(1);
        Check.same("staying is arriving", post.letter(0, 2), 2);
        post = Check.of(two + "sleeper x a 0 b;letter x a;");
        post.hours(12);
        Check.same("carried away", post.letter(0, 1), 1);
        // Drop stands ahead of waking, even with nothing in hand.
        post = Check.of(two + "sleeper x a 0 c;law drop hour=0;law wake 100;");
        post.hours(1);
        Check.same("not woken", post.look(0, 4), 0);
        post.hours(1);
        Check.same("woken", post.look(0, 4), 1);
        // Mail counts what is in hand: two at first, one behind b.
        post = Check.of(two + "sleeper x a 9 c;letter x b;letter x c;law wake (mail=2)*100;law pull 100-far;");
        Check.same("one is left ahead of waking", post.where(0, 11), 2);
        post = Check.of(two + "sleeper x a 9 c;letter x b;letter x c;law pull (mail=2)*far;");
        Check.same("two are in hand ahead of walking", post.where(0, 0), 0);
        // The noise must be above deep.
        Check.same("noise 3, deep 3", Check.of(two + "sleeper x a 3 c;cat b;").where(0, 11), 2);
        Check.same("noise 3, deep 2", Check.of(two + "sleeper x a 2 c;cat b;").where(0, 11), 1);
        // A letter that arrived is never taken again.
        post = Check.of(two + "sleeper x a 0 b;sleeper y b 0 c;letter x b;");
        post.hours(36);
        Check.same("stays arrived", post.letter(0, 2), 2);
        Check.same("x had it last", post.letter(0, 3), 0);
    }

    private static void where() {
        SleepPost post = Check.of(ROW + "sleeper x a 0 d;");
        int[] due = {1, 2, 3, 3, 3, 3, 3, 3, 3, 3, 3, 3};
        for (int hour = 0; hour < 12; hour++) {
            Check.same("where(0, " + hour + ")", post.where(0, hour), due[hour]);
        }
        Check.same("hour 12", post.where(0, 12), -1);
        Check.same("hour -1", post.where(0, -1), -1);
        Check.same("sleeper 1", post.where(1, 0), -1);
        Check.same("sleeper -1", post.where(-1, 0), -1);
        post.hours(2);
        Check.same("ahead of now", post.where(0, 1), -1);
        Check.same("now", post.where(0, 2), 3);
        Check.same("nothing went by", post.look(0, 0), 2);
        Check.same("nothing went by", post.count(6), 2);
    }

    private static void match() {
        String three = ROW + "sleeper x a 9 b;sleeper y b 9 c;sleeper z a 9 b;";
        SleepPost post = Check.of(three + "letter x c;letter y b;");
        Check.same("for c by y", post.match(0), 1);
        Check.same("for b by x, the first", post.match(1), 0);
        Check.same("no letter", post.match(2), -1);
        Check.same("no letter", post.match(-1), -1);
        Check.same("nothing is laid", post.letter(1, 1), 1);
        Check.same("to d by none, so none at all", Check.of(three + "letter x d;letter y b;").match(1), -2);
        post = Check.of(three + "letter x b;letter x b;letter x b;letter x b;");
        Check.same("four", post.match(3), 0);
        post = Check.of(three + "letter x b;letter x b;letter x b;letter x b;letter x b;");
        Check.same("five", post.match(0), -3);
        Check.same("five", post.match(4), -3);
        // Five lie, then those of y are in hand: what is asked first is whether it lies.
        post = Check.of(ROW + "sleeper x a 9 b;sleeper y d 9 d;letter y a;letter x b;letter x b;letter x b;letter x b;letter x b;");
        post.hours(1);
        Check.same("in hand", post.match(0), -2);
        Check.same("arrived", post.match(1), -2);
        // Only z walks to a.
        post = Check.of("house a;house b;street a b 1;sleeper x a 9 b;sleeper y a 9 b;sleeper z b 9 a;letter x b;letter x a;");
        Check.same("x and z", post.match(0), 0);
        Check.same("x and z", post.match(1), 2);
        Check.same("no sleepers", Check.of("house a;").match(0), -1);
        // x and y walk to b; z would walk to c, but not with two in hand.
        post = Check.of(ROW + "sleeper x a 9 b;sleeper y a 9 b;sleeper z d 9 c;letter x c;letter x c;law pull 100-far-(mail=2)*(far=0)*9;");
        Check.same("by none", post.match(0), -2);
        post = Check.of(ROW + "sleeper x a 9 b;sleeper z d 9 c;letter x c;");
        Check.same("by z", post.match(0), 1);
        Check.same("laid by y it is not by x", Check.of(ROW + "sleeper y a 9 a;sleeper x b 9 c;letter x c;").match(0), 1);
        Check.same("a lone sleeper", Check.of(ROW + "sleeper x a 9 b;letter x b;").match(0), 0);
        // From now: all have left their beds and will not be back; z, who stays, is no help.
        post = Check.of(ROW + "sleeper x a 9 b;sleeper y c 9 b;sleeper z d 9 d;letter z b;law pull 100-far-(deep<9);law drop hour=0;");
        post.hours(1);
        Check.same("all are away", post.match(0), -2);
    }

    private static void lead() {
        String text = "house a;house b;house c;house d;street a b 1;street a c 1;street b d 1;street c d 1;sleeper x a 0 a;law pull light*10-far;";
        SleepPost post = Check.of(text);
        Check.same("stays", post.lead(0, 0, 5), 0);
        Check.same("to b", post.lead(0, 1, 0), 2);
        Check.same("to c", post.lead(0, 2, 0), 4);
        Check.same("d in one hour", post.lead(0, 3, 0), -2);
        // a b or a c lit: x would stay in b or c unless pulled on; d with far 2 is less than b with far 1.
        Check.same("d by none", post.lead(0, 3, 1), -2);
        Check.same("nothing is lit", post.count(11), 0);
        SleepPost other = Check.of(text.replace("light*10-far", "light*10+far"));
        Check.same("d", other.lead(0, 3, 1), 0);
        Check.same("a stays by its lamp", other.lead(0, 0, 11), 1);
        Check.same("c", other.lead(0, 2, 0), 4);
        Check.same("c at last, the least of two-house sets is one lamp", other.lead(0, 2, 11), 4);
        SleepPost two = Check.of("house a;house b;house c;street a b 1;street b c 1;sleeper x a 0 a;law pull light*(10+hour*10)-way;lamp a 0 0;lamp b 1 1;");
        // c is two streets away.
        Check.same("by none", two.lead(0, 2, 0), -2);
        SleepPost both = Check.of("house a;house b;house c;street a b 1;street b c 1;sleeper x a 0 a;law pull light*(1+far)*5-way;");
        Check.same("both", both.lead(0, 2, 11), 6);
        Check.same("one is lit", both.lit(1, true), true);
        Check.same("only one more", both.lead(0, 2, 11), 4);
        both.hours(3);
        Check.same("now", both.lead(0, 2, 3), 4);
        Check.same("hour ahead of now", both.lead(0, 2, 2), -1);
        Check.same("hour 12", both.lead(0, 2, 12), -1);
        Check.same("sleeper 1", both.lead(1, 2, 5), -1);
        Check.same("house 3", both.lead(0, 3, 5), -1);
        Check.same("house -1", both.lead(0, -1, 5), -1);
        SleepPost least = Check.of("house a;house b;house c;house d;street a b 1;street a c 1;street b d 1;street c d 1;"
            + "sleeper x a 0 a;law pull light*3+far*(hour>0);");
        Check.same("no lamp", least.lead(0, 3, 2), 0);
        SleepPost tie = Check.of("house a;house b;house c;house d;street a b 1;street a c 1;street b d 1;street c d 1;"
            + "sleeper x a 0 a;law pull light*3+far*(hour>0)*(hour<2);");
        Check.same("b and d rather than c and d", tie.lead(0, 3, 1), 10);
        // a, b and d would do as well, and are less as bits; but two are fewer.
        SleepPost few = Check.of("house a;house b;house c;house d;house e;street b a 2;street c e 3;street e d 2;street d b 3;street c a 1;"
            + "sleeper x c 0 c;law pull light*(1+far)*5-way;");
        Check.same("d and e", few.lead(0, 3, 2), 24);
        few.lit(0, true);
        few.lit(1, true);
        Check.same("d alone, as a and b are lit", few.lead(0, 3, 2), 8);
    }

    private static void chain() {
        // x carries from a to b each night, y from b to c: a letter for c takes two nights, as y is gone when x comes.
        SleepPost post = Check.of(ROW + "sleeper x a 9 b;sleeper y b 9 c;letter x c;letter x b;letter x d;");
        Check.same("two nights", post.chain(0), 2);
        Check.same("one", post.chain(1), 1);
        Check.same("never", post.chain(2), -2);
        Check.same("no letter", post.chain(3), -1);
        Check.same("no letter", post.chain(-1), -1);
        post.hours(11);
        Check.same("this one is 1", post.chain(0), 2);
        post.hours(1);
        Check.same("nearer", post.chain(0), 1);
        post.hours(1);
        Check.same("it did", post.chain(0), 0);
        Check.same("nothing went by", post.count(7) * 12 + post.count(6), 13);
        // Two sleepers hand a letter to and fro; that it is still on its way in the 40th night is never.
        post = Check.of("house a;house b;house c;street a b 1;sleeper x a 9 b;sleeper y b 9 a;letter x c;");
        Check.same("to and fro", post.chain(0), -2);
    }

    private static void meet() {
        SleepPost post = Check.of(ROW + "sleeper x a 0 d;sleeper y d 0 a;sleeper z b 0 b;sleeper w d 0 b;");
        // x b c d d .., y c b a a .., z b .., w c b b ..
        Check.same("x and y", post.meet(0, 1), 0);
        Check.same("x and z", post.meet(0, 2), 1);
        Check.same("z and x", post.meet(2, 0), 1);
        Check.same("y and w", post.meet(1, 3), 3);
        Check.same("z and w", post.meet(2, 3), 4094);
        Check.same("alike", post.meet(1, 1), -1);
        Check.same("no sleeper", post.meet(0, 4), -1);
        Check.same("no sleeper", post.meet(-1, 0), -1);
        post.hours(1);
        Check.same("from now on", post.meet(1, 3), 2);
    }

    private static void sights() {
        SleepPost post = Check.of(ROW + "sleeper x a 0 d;");
        Check.same("hour 12", post.sight(12, 0, 0), -1);
        Check.same("hour -1", post.sight(-1, 0, 0), -1);
        Check.same("sleeper 1", post.sight(0, 1, 0), -1);
        Check.same("house 4", post.sight(0, 0, 4), -1);
        Check.same("no sight", post.strike(0), -1);
        Check.same("none", post.count(12), 0);
        for (int i = 0; i < 12; i++) {
            Check.same("sight " + i, post.sight(i, 0, 1), 2 * i);
            Check.same("strike " + i, post.strike(2 * i), 2 * i + 1);
        }
        Check.same("there are 24", post.sight(0, 0, 0), -1);
        Check.same("there are 24", post.strike(0), -1);
        Check.same("count", post.count(12), 24);
        Check.same("known by all", post.count(13), 24);
        Check.same("known(25)", post.known(25), false);
        Check.same("known(-2)", post.known(-2), false);
        Check.same("known(24)", post.known(24), true);
        Check.same("known(3)", post.known(3), true);
        Check.same("by 3", post.count(13), 3);
        Check.same("false leaves it", post.known(25), false);
        Check.same("by 3", post.count(13), 3);
        Check.same("known(-1)", post.known(-1), true);
        Check.same("by all", post.count(13), 24);
        Check.tell(post, "house a;sleeper x a 0 a;");
        Check.same("known(0) of a new text", post.known(0), true);
        post.sight(0, 0, 0);
        Check.same("by 0", post.count(13), 0);
        post.known(1);
        post.sight(0, 0, 0);
        Check.same("by 1 is not by all", post.count(13), 1);
        post.known(-1);
        post.sight(0, 0, 0);
        Check.same("all and those to come", post.count(13), 3);
    }

    private static void dreamt() {
        SleepPost post = Check.of(ROW + "sleeper x a 0 d;sleeper y b 0 b;");
        Check.same("all", post.dreamt(0), 15);
        post.sight(0, 0, 1);
        Check.same("b c d", post.dreamt(0), 14);
        Check.same("y's are y's", post.dreamt(1), 15);
        Check.same("the hour", post.tells(0, 0), 2);
        Check.same("how many", post.tells(0, 1), 3);
        post.sight(11, 0, 2);
        Check.same("c", post.dreamt(0), 4);
        Check.same("the first hour", post.tells(0, 0), 0);
        Check.same("one", post.tells(0, 1), 1);
        post.sight(11, 0, 3);
        Check.same("nothing", post.dreamt(0), 0);
        Check.same("nothing", post.tells(0, 0), -2);
        Check.same("nothing", post.tells(0, 1), -2);
        Check.same("wrong what", post.tells(0, 2), -1);
        Check.same("wrong what", post.tells(0, -1), -1);
        Check.same("strike", post.strike(1), 3);
        Check.same("d", post.dreamt(0), 8);
        Check.same("a strike of a strike", post.strike(3), 4);
        Check.same("nothing again", post.dreamt(0), 0);
        Check.same("known", post.known(4), true);
        Check.same("the strike counts", post.dreamt(0), 8);
        post.known(2);
        Check.same("c", post.dreamt(0), 4);
        post.known(-1);
        Check.same("a strike of a strike of a strike", post.strike(4), 5);
        Check.same("d", post.dreamt(0), 8);
        Check.same("no sleeper", post.dreamt(2), -1);
        Check.same("no sleeper", post.dreamt(-1), -1);
        Check.same("no sleeper", post.tells(2, 0), -1);
        // Lamps and bells as told, from the text on.
        post = Check.of(ROW + "sleeper x a 3 d;bell c 5;letter x b;");
        post.sight(11, 0, 2);
        Check.same("woken in c", post.dreamt(0), 12);
        post.bell(2, 0);
        Check.same("still", post.dreamt(0), 12);
        post.hours(5);
        Check.same("still", post.dreamt(0), 12);
        post = Check.of("house a;house b;street a b 1;sleeper x a 3 b;law pull light;");
        post.lit(1, true);
        post.sight(0, 0, 1);
        Check.same("lit by call counts not", post.dreamt(0), 0);
    }

    private static void rests() {
        String text = "house a;house b;sleeper x a 9 a;sleeper y a 9 a;sleeper z a 9 a;sleeper v b 9 b;";
        SleepPost post = Check.of(text);
        // a: 3, b: 1; both in a: 1 each, both in b: 0 each. (a, a): another house gives 1: not more. (a, b): b gives the second 1, a gives 1.
        Check.same("rests", post.rests(1, 1), 3);
        Check.same("a, a", post.rest(1, 1, 0), 0);
        Check.same("a, b", post.rest(1, 1, 1), 1);
        Check.same("b, a", post.rest(1, 1, 2), 10);
        Check.same("no more", post.rest(1, 1, 3), -2);
        Check.same("MAX", post.rest(1, 1, MAX), -2);
        Check.same("k -1", post.rest(1, 1, -1), -1);
        Check.same("loud 0", post.rest(1, 0, 0), -1);
        Check.same("loud 10", post.rest(10, 1, 0), -1);
        Check.same("loud 10", post.rests(10, 1), -1);
        Check.same("loud 0", post.rests(0, 1), -1);
        Check.same("no houses", new SleepPost().rests(1, 1), -1);
        Check.same("no houses", new SleepPost().rest(1, 1, 0), -1);
        Check.same("nobody", Check.of("house a;house b;").rests(9, 9), 4);
        Check.same("one house", Check.of("house a;sleeper x a 0 a;").rests(9, 9), 1);
        Check.same("one house", Check.of("house a;sleeper x a 0 a;").rest(9, 9, 0), 0);
        // A loud singer on the way wakes x in b, so there x stays; a soft one doesn't.
        String way = "house a;house b;house c;street a b 1;street b c 1;sleeper x a 5 c;";
        post = Check.of(way);
        // The first one has x in b or in c, wherever the second one isn't: b a, b c, c a, c b.
        Check.same("loud in b", post.rests(6, 5), 4);
        Check.same("loud in b", post.rest(6, 5, 0), 10);
        Check.same("the other one is loud", post.rest(5, 6, 0), 1);
        Check.same("soft", post.rests(5, 5), 5);
        Check.same("soft", post.rest(5, 5, 0), 2);
        // Louds sum up with what is there: a bell of 1 makes 5 enough.
        post.bell(1, 1);
        Check.same("with a bell", post.rests(5, 5), post.rests(6, 6));
        Check.same("with a singer who is there", Check.of(way + "corner b 1;").rest(5, 4, 0), 10);
    }

    private static void brought() {
        SleepPost post = Check.of(ROW + "sleeper x a 0 d;sleeper y d 0 c;");
        Check.same("a", post.brought(0), 0);
        Check.same("b", post.brought(1), 1);
        Check.same("c", post.brought(2), 3);
        Check.same("d", post.brought(3), 1);
        Check.same("house 4", post.brought(4), -1);
        Check.same("house -1", post.brought(-1), -1);
        post.hours(1);
        Check.same("from now on", post.brought(1), 0);
    }

    private static void costAndNeed() {
        SleepPost post = Check.of(ROW + "sleeper x a 9 b;sleeper y a 9 b;sleeper z c 9 d;letter x b;letter z d;");
        Check.same("nobody", post.cost(0), 0);
        Check.same("y takes what x does not", post.cost(1), 0);
        Check.same("y", post.cost(2), 0);
        Check.same("x and y", post.cost(3), 1);
        Check.same("z", post.cost(4), 1);
        Check.same("all", post.cost(7), 2);
        Check.same("bits of no sleepers", post.cost(8), -1);
        Check.same("below 0", post.cost(-1), -1);
        Check.same("below 0", post.cost(MIN), -1);
        Check.same("x and z rather than y and z", post.need(), 5);
        post.hours(3);
        Check.same("all arrived", post.need(), 0);
        Check.same("none fewer", post.cost(7), 0);
        // y takes x's letter away; without y more arrive, which is no cost.
        post = Check.of(ROW + "sleeper y a 9 b;sleeper x a 9 c;letter x c;");
        Check.same("y is in the way", post.tried(0, 0), 0);
        Check.same("0 at least", post.cost(1), 0);
        Check.same("as many as if all did", post.need(), 0);
        // One who does not walk keeps what is in hand.
        post = Check.of(ROW + "sleeper x a 9 c;sleeper y b 9 c;letter x c;");
        post.hours(1);
        Check.same("x has it and stays", post.cost(1), 1);
        Check.same("no sleepers", new SleepPost().need(), 0);
        Check.same("no sleepers", new SleepPost().cost(0), 0);
    }

    /** From seed 1 the numbers are 16838 (modulo 3: 2), 5758 (1), 10113 (0), 17515 (1), 31051 (1), 5627 (2), 23010 (0), 7419 (0), 16212 (0), 4086 (0), 2749 (1), 12767, 9084 (0). */
    private static void chance() {
        // Only a moon leads x to b; cats, of the numbers 10113, 31051, 12767, change nothing.
        SleepPost post = Check.of("house a;house b;street a b 1;sleeper x a 9 a;letter x b;law pull light*(5+far*2)-far;");
        Check.same("five moons", post.chance(1, 0, 1), 5);
        Check.same("nothing went by", post.letter(0, 2), 0);
        post.hours(1);
        Check.same("no number but at hour 0", post.chance(1, 0, 1), 0);
        post.lit(1, true);
        Check.same("lit by call", post.chance(1, 0, 1), 10);
        // A cat wakes x on the way, in b.
        post = Check.of("house a;house b;house c;street a b 1;street b c 1;sleeper x a 2 c;letter x c;");
        Check.same("cats", post.chance(1, 0, 1), 10 - catsAt(1, 1, 3));
        post = Check.of("house a;house b;house c;street a b 1;street b c 1;sleeper x a 3 c;letter x c;cat b;");
        Check.same("one more cat", post.chance(77, 0, 1), 10 - catsAt(77, 1, 3));
        for (int wrong : new int[] {0, 10, -1, MAX}) {
            Check.same("n " + wrong, post.chance(1, 0, wrong), -1);
        }
        Check.same("seed -1", post.chance(-1, 0, 1), -1);
        Check.same("letter 1", post.chance(1, 1, 1), -1);
        Check.same("letter -1", post.chance(1, -1, 1), -1);
        Check.same("seed 0", post.chance(0, 0, 1) >= 0, true);
        Check.same("the greatest seed", post.chance(MAX, 0, 9) >= 0, true);
        post.hours(5);
        Check.same("it did", post.chance(1, 0, 1), 10);
    }

    /** With numbers of WAKE, over more NIGHTS than one, to the last HOUR of each. */
    private static void longChance() {
        // x waits in a to hour 11 and walks to b then; in each hour a number modulo 100 below 7 wakes.
        SleepPost post = Check.of("house a;house b;street a b 1;sleeper x a 9 b;letter x b;law pull (hour=11)*(9-far)+(hour<11)*far;law wake 7;");
        for (int nights = 1; nights <= 9; nights++) {
            int due = 0;
            long[] state = {12345};
            for (int time = 0; time < 10; time++) {
                boolean arrived = false;
                for (int night = 0; night < nights; night++) {
                    if (number(state) % 3 == 1) {
                        number(state);
                    }
                    int hour = 0;
                    while (hour < 11 && number(state) % 100 >= 7) {
                        hour++;
                    }
                    if (hour == 11) {
                        arrived = true;
                        number(state);
                    }
                }
                due += arrived ? 1 : 0;
            }
            Check.same("chance of " + nights, post.chance(12345, 0, nights), due);
        }
    }

    private static long number(long[] state) {
        state[0] = (state[0] * 1103515245L + 12345) % 2147483648L;
        return state[0] / 65536;
    }

    /** In how many of ten NIGHTS a cat comes to a house, if nothing else takes numbers. */
    private static int catsAt(long seed, int house, int houses) {
        long[] state = {seed};
        int cats = 0;
        for (int i = 0; i < 10; i++) {
            if (number(state) % 3 == 1) {
                cats += number(state) % houses == house ? 1 : 0;
            }
        }
        return cats;
    }

    private static void tried() {
        String row = ROW + "sleeper x a 2 d;sleeper y d 9 d;letter x d;letter y d;";
        Check.same("as it goes", Check.of(row).tried(0, 0), 2);
        Check.same("a cat", Check.of(row + "cat b;").tried(0, 0), 1);
        Check.same("no cats", Check.of(row + "cat b;").tried(1, 0), 2);
        Check.same("no bells", Check.of(row + "cat b;").tried(2, 0), 1);
        Check.same("no bells", Check.of(row + "bell b 3;").tried(2, 0), 2);
        Check.same("no cats", Check.of(row + "bell b 3;").tried(1, 0), 1);
        Check.same("no singers", Check.of(row + "corner b 3;").tried(3, 0), 2);
        Check.same("no bells", Check.of(row + "corner b 3;").tried(2, 0), 1);
        Check.same("deep 9", Check.of(row + "corner b 9;").tried(6, 0), 2);
        Check.same("deep 9 of y", Check.of(row + "corner b 9;").tried(6, 1), 1);
        Check.same("deep 9 is not enough", Check.of(row + "corner b 9;cat b;").tried(6, 0), 1);
        SleepPost post = Check.of(row + "street a d 9;street a c 1;");
        Check.same("no street, but another way", post.tried(7, 4), 2);
        Check.same("no way", Check.of(row).tried(7, 0), 1);
        Check.same("far changes too", Check.of(row + "law pull 0-far;street a d 4;").tried(7, 2), 2);
        Check.same("street 5", post.tried(7, 5), -1);
        Check.same("street -1", post.tried(7, -1), -1);
        Check.same("sleeper 2", post.tried(6, 2), -1);
        Check.same("i 1", post.tried(5, 1), -1);
        Check.same("what 8", post.tried(8, 0), -1);
        Check.same("what -1", post.tried(-1, 0), -1);
        SleepPost dark = Check.of("house a;house b;street a b 1;sleeper x a 0 a;letter x b;law pull light*5-far;lamp b 3 3;");
        Check.same("a lamp", dark.tried(0, 0), 1);
        Check.same("dark", dark.tried(4, 0), 0);
        Check.same("dark is 0", Check.of("house a;house b;street a b 1;sleeper x a 0 a;letter x b;law pull far*(1-light);lamp b 0 11;").tried(4, 0), 1);
        Check.same("all lit: x stays", dark.tried(5, 0), 0);
        dark.lit(1, true);
        Check.same("dark though lit by call", dark.tried(4, 0), 0);
        Check.same("all lit", Check.of("house a;house b;street a b 1;sleeper x a 0 a;letter x b;law pull light*far;").tried(5, 0), 1);
        SleepPost late = Check.of("house a;house b;street a b 1;sleeper x a 9 b;letter x b;law pull (hour=11)*(9-far)+(hour<11)*far;");
        Check.same("in the last hour", late.tried(0, 0), 1);
        Check.same("in the last hour", late.cost(1), 1);
        Check.same("in the last hour", late.need(), 1);
        Check.same("in the last hour", late.match(0), 0);
        Check.same("in the last hour", late.chain(0), 1);
        Check.same("in the last hour", late.chance(1, 0, 1), 10);
        Check.same("in the last hour", late.brought(1), 1);
        late.sight(11, 0, 1);
        Check.same("in the last hour", late.dreamt(0), 2);
        Check.same("in the last hour", late.lead(0, 1, 11), 0);
        post = Check.of(row);
        post.hours(24);
        Check.same("those that did count", post.tried(7, 0), 2);
        post = Check.of(row);
        post.bell(1, 9);
        Check.same("a bell by call", post.tried(0, 0), 1);
        Check.same("is none, too", post.tried(2, 0), 2);
    }

    private static void undo() {
        SleepPost post = Check.of(ROW + "sleeper x a 5 d;sleeper y d 5 d;letter x b;bell a 2;");
        Check.same("nothing", post.undo(), -1);
        post.lay(0, 1);
        post.lit(2, true);
        post.bell(0, 7);
        post.bell(0, 0);
        Check.same("false is nothing to undo", post.bell(0, 0), false);
        Check.same("four", post.count(14), 4);
        Check.same("hours(0)", post.hours(0), 0);
        Check.same("refused hours", post.hours(37), -1);
        Check.same("four", post.count(14), 4);
        Check.same("undo", post.undo(), 3);
        Check.same("loud 7", post.at(0, 0, 1), 7);
        Check.same("undo", post.undo(), 2);
        Check.same("loud 2", post.at(0, 0, 1), 2);
        Check.same("undo", post.undo(), 1);
        Check.same("not lit", post.count(11), 0);
        Check.same("undo", post.undo(), 0);
        Check.same("laid where it was", post.letter(0, 1), 0);
        Check.same("nothing", post.undo(), -1);
        post.lit(1, true);
        post.lit(1, false);
        Check.same("undo", post.undo(), 1);
        Check.same("lit again", post.count(11), 2);
        post.hours(1);
        Check.same("an hour went by", post.undo(), -1);
        for (int i = 0; i < 22; i++) {
            post.bell(3, i % 9 + 1);
        }
        Check.same("20 at most", post.count(14), 20);
        for (int i = 19; i >= 0; i--) {
            Check.same("undo", post.undo(), i);
        }
        Check.same("the first two stay", post.at(3, 0, 1), 2);
        Check.same("nothing", post.undo(), -1);
        post = Check.of(ROW + "sleeper x a 5 d;sleeper y d 5 d;sleeper z b 5 d;letter x b;letter x b;bell a 2;");
        int[] before = new int[45];
        for (int i = 0; i < before.length; i++) {
            before[i] = changed(post);
            boolean done = i % 3 == 0 ? post.lay(i % 2, i / 3 % 3) || post.lay(i % 2, (i / 3 + 1) % 3)
                : i % 3 == 1 ? post.lit(i % 4, (post.count(11) >> i % 4 & 1) == 0) : post.bell(0, (i * 7 + 3) % 10) || post.bell(0, 8);
            Check.same("change " + i, done, true);
        }
        for (int i = before.length - 1; i >= before.length - 20; i--) {
            post.undo();
            Check.same("as ahead of change " + i, changed(post), before[i]);
        }
        Check.same("no more", post.undo(), -1);
    }

    private static int changed(SleepPost post) {
        return post.letter(0, 1) << 12 | post.letter(1, 1) << 8 | post.count(11) << 4 | post.at(0, 0, 1);
    }

    private static void images() {
        SleepPost post = Check.of(ROW + "sleeper x a 5 d;sleeper y d 0 d;letter x b;letter x d;seed 1;law wake (far=3)*39+(deep=0)*60;");
        Check.same("none", post.back(), -1);
        post.hours(13);
        post.lit(1, true);
        post.bell(2, 4);
        Check.same("keep", post.keep(), 1);
        Check.same("undo is kept", post.count(14), 2);
        String now = world(post);
        post.sight(3, 0, 1);
        post.hours(20);
        post.lit(0, true);
        post.bell(2, 0);
        String later = world(post);
        post.lay(1, 1);
        Check.same("back", post.back(), 1);
        Check.same("as it was", world(post).equals(now), true);
        Check.same("nothing to undo", post.undo(), -1);
        Check.same("sights stay", post.count(12), 1);
        post.hours(20);
        post.lit(0, true);
        post.bell(2, 0);
        Check.same("numbers, too, are as they were", world(post).equals(later), true);
        Check.same("again", post.back(), 1);
        Check.same("as it was", world(post).equals(now), true);
        post.hours(36);
        Check.same("another one in its place", post.keep(), 4);
        post.hours(36);
        Check.same("back", post.back(), 4);
    }

    /** The state without SIGHTS and what can be undone. */
    private static String world(SleepPost post) {
        StringBuilder all = new StringBuilder();
        for (int i = 6; i <= 11; i++) all.append(post.count(i)).append(' ');
        for (int s = 0; s < 2; s++) for (int i = 0; i < 6; i++) all.append(post.look(s, i)).append(' ');
        for (int l = 0; l < 2; l++) for (int i = 0; i < 4; i++) all.append(post.letter(l, i)).append(' ');
        for (int h = 0; h < 4; h++) all.append(post.at(h, 0, 1)).append(' ');
        return all.toString();
    }

    private static void count() {
        SleepPost post = Check.of(ROW + "sleeper x a 5 d;sleeper y d 0 d;letter x b;letter x d;letter y a;lamp a 0 1;lamp a 2 3;cat d;law pull 1-far*(2+3);");
        post.hours(1);
        post.lit(3, true);
        post.lit(0, true);
        post.sight(0, 0, 0);
        post.strike(0);
        post.known(1);
        int[] due = {4, 3, 2, 3, 2, 7, 1, 0, 1, 1, 1, 9, 2, 1, 2};
        for (int what = 0; what < due.length; what++) {
            Check.same("count(" + what + ")", post.count(what), due[what]);
        }
        Check.same("count(15)", post.count(15), -1);
        Check.same("count(-1)", post.count(-1), -1);
    }

    /** Nothing of a TEXT ahead is left when another one is told. */
    private static void toldAnew() {
        String full = "house a;house b;house c;street a b 5;street b c 9;sleeper x b 1 c;sleeper y a 2 b;letter x a;letter y c;lamp a 0 11;"
            + "bell a 9;cat a;corner a 9;seed 7;law pull light*noise*mail*hour*way;law wake deep*far;law drop 1;";
        String[] others = {
            "", "house a;", "house a;house b;sleeper x a 5 b;letter x b;law pull 100-far*way;",
            "house a;house b;street a b 1;sleeper x a 5 b;letter x b;law wake hour*9;law pull deep-far;", "house b;house a;street a b 3;seed 3;sleeper x a 0 b;letter x b;letter x a;law wake 30;"
        };
        for (String other : others) {
            SleepPost fresh = Check.of(other);
            SleepPost used = Check.of(full);
            used.hours(5);
            used.bell(1, 3);
            used.lit(2, true);
            used.tried(7, 0);
            used.hours(17);
            Check.tell(used, other);
            for (int round = 0; round < 2; round++) {
                Check.same("as a new object's: " + other, all(used).equals(all(fresh)), true);
                used.hours(7);
                fresh.hours(7);
            }
        }
    }

    private static String all(SleepPost post) {
        StringBuilder all = new StringBuilder(Check.state(post));
        for (int what = 0; what < 15; what++) all.append(post.count(what)).append(' ');
        for (int h = 0; h < 4; h++) {
            for (int hour = 0; hour < 12; hour++) all.append(post.at(h, hour, 0)).append(post.where(0, hour)).append(' ');
            for (int other = 0; other < 4; other++) all.append(post.far(h, other)).append(' ');
            for (int what = 0; what < 3; what++) all.append(post.law(what, 0, h)).append(' ');
            all.append(post.brought(h)).append(post.match(h)).append(post.chain(h)).append(post.lead(0, h, 11)).append(' ');
        }
        return all.append(post.need()).append(' ').append(post.rests(3, 4)).append(' ').append(post.chance(5, 0, 3)).toString();
    }
}
