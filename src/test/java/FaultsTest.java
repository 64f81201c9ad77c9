/** Promises 3 and 4: texts with a FAULT, by its kind and place; and the texts right beside them that have none. */
public final class FaultsTest {
    private static final String AB = "house a;house b;";

    public static void main(String[] args) {
        misplaced();
        tooMuch();
        toldAlready();
        untold();
        firstAlongTheText();
        expressions();
        afterAFault();
        Check.end("FaultsTest");
    }

    private static String times(String part, int n) {
        return part.repeat(n);
    }

    private static void misplaced() {
        Check.fine("", 0);
        Check.fine(" \n ", 0);
        Check.fine("house\na ;\n", 1);
        Check.fine("house a;sleeper a a 0 a;letter a a;", 3);
        Check.fine("seed 00000000000000000000007;", 1);
        Check.fine("house abcdef;", 1);
        Check.faultAtMark("house !abcdefg;", 1);
        Check.faultAtMark("house !sleeper;", 1);
        Check.faultAtMark("house !way;", 1);
        Check.faultAtMark("house !1;", 1);
        Check.faultAtMark("house !A;", 1);
        Check.faultAtMark("house a!B;", 1);
        Check.faultAtMark("house a!1;", 1);
        Check.faultAtMark("!a;", 1);
        Check.faultAtMark("!;", 1);
        Check.faultAtMark("house a;!;", 1);
        Check.faultAtMark("!housea;", 1);
        Check.faultAtMark("!pull 1;", 1);
        Check.faultAtMark("house!\t a;", 1);
        Check.faultAtMark("house a!", 1);
        Check.faultAtMark("house a  !", 1);
        Check.faultAtMark("house!", 1);
        Check.faultAtMark("house a !b;", 1);
        Check.faultAtMark("house a;cat a !1;", 1);
        Check.faultAtMark("house a;bell a !a;", 1);
        Check.faultAtMark("house a;bell a!;", 1);
        Check.faultAtMark(AB + "street a !1;", 1);
        Check.faultAtMark(AB + "street a b !b;", 1);
        Check.faultAtMark(AB + "sleeper x a !b 1;", 1);
        Check.faultAtMark("law !house 1;", 1);
        Check.faultAtMark("law !1;", 1);
        Check.faultAtMark("law pull!;", 1);
        Check.faultAtMark("seed !x;", 1);
        Check.fault("house " + (char) 200 + ";", 1, 6);
        Check.fault("house a" + (char) 0, 1, 7);
        Check.fault("house a" + (char) 13 + ";", 1, 7);
    }

    private static void tooMuch() {
        String eight = "house a;house b;house c;house d;house e;house f;house g;house h;";
        Check.fine(eight, 8);
        Check.faultAtMark(eight + " !house i;", 2);
        Check.faultAtMark(eight + "!house 5;", 2);
        String twelve = eight + "street a b 1;street a c 1;street a d 1;street a e 1;street a f 1;street a g 1;street a h 1;"
            + "street b c 1;street b d 1;street b e 1;street b f 1;street b g 1;";
        Check.fine(twelve, 20);
        Check.faultAtMark(twelve + "!street b h 1;", 2);
        String five = "house a;sleeper x a 0 a;sleeper y a 9 a;sleeper z a 0 a;sleeper v a 0 a;sleeper w a 0 a;";
        Check.fine(five, 6);
        Check.faultAtMark(five + "!sleeper u a 0 a;", 2);
        String letters = "house a;sleeper x a 0 a;" + times("letter x a;", 8);
        Check.fine(letters, 10);
        Check.faultAtMark(letters + "!letter x a;", 2);
        String lamps = "house a;" + times("lamp a 0 11;", 6);
        Check.fine(lamps, 7);
        Check.faultAtMark(lamps + "!lamp a 0 0;", 2);
        Check.fine(AB + "street a b 9;", 3);
        Check.faultAtMark(AB + "street a b !10;", 2);
        Check.faultAtMark(AB + "street a b !0;", 2);
        Check.faultAtMark(AB + "street a b !4294967297;", 2);
        Check.faultAtMark(AB + "street a b !18446744073709551617;", 2);
        Check.faultAtMark("house a;sleeper x a !10 a;", 2);
        Check.faultAtMark("house a;lamp a !12 11;", 2);
        Check.faultAtMark("house a;lamp a 0 !12;", 2);
        Check.faultAtMark("house a;lamp a 3 !2;", 2);
        Check.fine("house a;lamp a 3 3;lamp a 3 3;", 3);
        Check.fine("house a;bell a 9;corner a 1;cat a;", 4);
        Check.faultAtMark("house a;bell a !0;", 2);
        Check.faultAtMark("house a;bell a !10;", 2);
        Check.faultAtMark("house a;corner a !0;", 2);
        Check.faultAtMark("house a;corner a !10;", 2);
        Check.fine("seed 99999;", 1);
        Check.faultAtMark("seed !100000;", 2);
        Check.fine("law pull 9999;", 1);
        Check.faultAtMark("law pull !10000;", 2);
        Check.fine("law pull " + times("(", 8) + "1" + times(")", 8) + "+" + times("(", 8) + "1" + times(")", 8) + ";", 1);
        Check.faultAtMark("law pull " + times("(", 8) + "!(1" + times(")", 9) + ";", 2);
        Check.fine("law pull 1" + times("+1", 31) + ";", 1);
        Check.fine("law pull not 1" + times("+1", 31) + ";", 1);
        Check.faultAtMark("law pull not 1" + times("+1", 31) + "!+1;", 2);
        Check.faultAtMark("law pull 1" + times("+1", 31) + "+!1;", 2);
        Check.faultAtMark("law pull 1" + times("+1", 31) + " or !deep;", 2);
        Check.faultAtMark("law pull 1" + times("+1", 31) + " or !not 1;", 2);
        Check.fine("law pull " + times("not ", 63) + "1;", 1);
        Check.faultAtMark("law pull " + times("not ", 64) + "!1;", 2);
        Check.faultAtMark("law pull " + times("not ", 64) + "!not 1;", 2);
        Check.faultAtMark("law pull 1" + times("+1", 15) + ";law wake 1" + times("-1", 15) + ";law drop 1+!1;", 2);
        Check.fine("law pull 1" + times("+1", 15) + ";law wake 1" + times("-1", 15) + ";law drop (1);", 3);
    }

    private static void toldAlready() {
        Check.faultAtMark("house a;house !a;", 3);
        Check.faultAtMark("house a;sleeper x a 0 a;sleeper !x a 0 a;", 3);
        Check.fine("house x;sleeper x x 0 x;", 2);
        Check.faultAtMark(AB + "street a b 1;street a !b 1;", 3);
        Check.faultAtMark(AB + "street a b 1;street b !a 2;", 3);
        Check.faultAtMark("house a;bell a 1;bell !a 2;", 3);
        Check.faultAtMark("house a;corner a 1;corner !a 2;", 3);
        Check.faultAtMark("house a;cat a;cat !a;", 3);
        Check.fine(AB + "bell a 1;bell b 1;corner a 1;corner b 1;cat a;cat b;", 8);
        Check.faultAtMark("seed 0;!seed 0;", 3);
        Check.faultAtMark("law wake 1;law !wake 1;", 3);
        Check.fine("law wake 1;law pull 1;law drop 1;", 3);
    }

    private static void untold() {
        Check.faultAtMark("street !a b 1;", 4);
        Check.faultAtMark("house a;street a !b 1;house b;", 4);
        Check.faultAtMark("house a;sleeper x !x 0 a;", 4);
        Check.faultAtMark("house a;sleeper x a 0 !x;", 4);
        Check.faultAtMark("house a;letter !a a;", 4);
        Check.faultAtMark("house a;sleeper x a 0 a;letter x !x;", 4);
        Check.faultAtMark("lamp !a 0 1;", 4);
        Check.faultAtMark("bell !a 1;", 4);
        Check.faultAtMark("cat !a;", 4);
        Check.faultAtMark("corner !a 1;", 4);
        Check.faultAtMark("house a;street a !a 1;", 5);
    }

    private static void firstAlongTheText() {
        Check.faultAtMark("house a;street a !a 0;", 5);
        Check.faultAtMark("street !a a 10;", 4);
        Check.faultAtMark("house a;bell !b 10;_", 4);
        Check.faultAtMark("house a;house !a", 3);
        Check.faultAtMark("law pull 1" + times("+1", 31) + " + !+;", 1);
        Check.faultAtMark("law pull " + times("(", 8) + "1!(;", 1);
        Check.faultAtMark("law pull " + times("not ", 64) + "!house;", 1);
        Check.faultAtMark("house !10;", 1);
    }

    private static void expressions() {
        Check.fine("law pull not not 1<2 and not (3=3) or 4;", 1);
        Check.fine("law pull (1<2)<3;", 1);
        Check.fine("law pull 1<2 and 2<3 or 3<(4<5);", 1);
        Check.faultAtMark("law pull 1<2!<3;", 1);
        Check.faultAtMark("law pull 1<2+3!=3;", 1);
        Check.faultAtMark("law pull not 1<2!>3;", 1);
        Check.faultAtMark("law pull 1< !=3;", 1);
        Check.faultAtMark("law pull 1=!<3;", 1);
        Check.faultAtMark("law pull 1<=!>3;", 1);
        Check.fine("law pull 1<>3;", 1);
        Check.fine("law pull 1>=3;", 1);
        Check.faultAtMark("law pull 1>!>3;", 1);
        Check.faultAtMark("law pull 1+!not 2;", 1);
        Check.faultAtMark("law pull 1<!not 2;", 1);
        Check.faultAtMark("law pull 1 !not 2;", 1);
        Check.faultAtMark("law pull !-1;", 1);
        Check.faultAtMark("law pull 1+!;", 1);
        Check.faultAtMark("law pull (1!;", 1);
        Check.faultAtMark("law pull (1!", 1);
        Check.faultAtMark("law pull 1!);", 1);
        Check.faultAtMark("law pull (!);", 1);
        Check.faultAtMark("law pull 1 !2;", 1);
        Check.faultAtMark("law pull 1 !way;", 1);
        Check.faultAtMark("law pull 1!(2);", 1);
        Check.faultAtMark("law pull !x;", 1);
        Check.faultAtMark("law pull !pull;", 1);
        Check.fine("law pull 1and2;", 1);
    }

    private static void afterAFault() {
        SleepPost post = Check.of("house a;house b;street a b 3;sleeper x a 0 b;letter x b;law pull 1;");
        post.hours(2);
        post.lit(1, true);
        post.sight(0, 0, 1);
        post.keep();
        Check.same("a text with a fault", Check.tell(post, "house z;house z;"), -1);
        Check.same("fault(0)", post.fault(0), 3);
        Check.same("houses stay", post.count(0), 2);
        Check.same("knots stay", post.count(5), 1);
        Check.same("the hour stays", post.count(6), 2);
        Check.same("what is lit stays", post.count(11), 2);
        Check.same("sights stay", post.count(12), 1);
        Check.same("what can be undone stays", post.count(14), 1);
        Check.same("the image stays", post.back(), 0);
        Check.same("the tape is empty", post.text(1), -2);
        Check.same("-2 leaves the fault", post.fault(0), 3);
        Check.same("-2 leaves its place", post.fault(1), 14);
        Check.same("a text without a fault", Check.tell(post, "house z;"), 1);
        Check.same("no fault", post.fault(0), 0);
        Check.same("no place", post.fault(1), -1);
        Check.same("fault(2)", post.fault(2), -1);
        Check.same("fault(-1)", post.fault(-1), -1);
        Check.same("laws are gone", post.count(5), 0);
        Check.same("streets are gone", post.count(1), 0);
        Check.same("no image", post.back(), -1);
        Check.same("no undo", post.undo(), -1);
        Check.same("no sights", post.count(12), 0);
        Check.same("nothing lit", post.count(11), 0);
        Check.same("hour 0", post.count(6), 0);
    }
}
