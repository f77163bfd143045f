/** The edges of what a text tells: its numbers, how many of each, its faults, what it is in place of. */
public final class TextEdgesTest {
    private static final String DISH = "dish a 1 2 3;";
    private static final String MEN = "man m 9 0 0 0;man n 9 0 0 0;";

    public static void main(String[] args) {
        dishes();
        men();
        fullUpToBelly();
        hates();
        ill();
        fast();
        bellies();
        goings();
        debts();
        gates();
        numberedAsTheyStand();
        tokens();
        howMany();
        ifs();
        brackets();
        firstByPlace();
        leastOfOnePlace();
        twice();
        names();
        owesHimself();
        aFaultChangesNothing();
        inPlaceOfTheOneAhead();
        nothingIsLeft();
        behindBrokenTexts();
        fullTextsAgain();
        Check.end();
    }

    /** At each edge of a number in a text, and one step to each side; below 0 stands a '-'. */
    private static void number(String before, int least, int most, String after) {
        if (least > 0) {
            Check.fault(5, before + "@" + (least - 1) + after);
        } else {
            Check.fault(1, before + "@-1" + after);
        }
        for (int n : new int[] {least, least + 1, most - 1, most}) {
            if (n >= least && n <= most) {
                Check.right(before + n + after);
            }
        }
        Check.fault(5, before + "@" + (most + 1) + after);
        Check.fault(5, before + "@9999" + after);
    }

    private static void dishes() {
        Check.says("(a NAME, BULK 1 .. 9 of a bite, GAIN 0 .. 99, STORE 0 .. 999)");
        number("dish a ", 1, 9, " 2 3;");
        number("dish a 1 ", 0, 99, " 3;");
        number("dish a 1 2 ", 0, 999, ";");
        EatenToll x = Check.told("dish a 1 0 0; dish b 9 99 999; dish c 2 1 1; dish d 8 98 998;");
        int[][] due = {{0, 1, 0}, {999, 9, 99}, {1, 2, 1}, {998, 8, 98}};
        for (int dish = 0; dish < 4; dish++) {
            for (int what = 0; what < 3; what++) {
                Check.due("dish(" + dish + ", " + what + ")", due[dish][what], x.dish(dish, what));
            }
        }
    }

    private static void men() {
        Check.says("(a NAME, BELLY 0 .. 99, FULL 0 .. BELLY, EMPTIES 0 .. 9 each hour, LOAD 0 .. 999;");
        number("man m ", 0, 99, " 0 0 0;");
        number("man m 9 0 ", 0, 9, " 0;");
        number("man m 9 0 0 ", 0, 999, ";");
        EatenToll x = Check.told("man p 0 0 0 0; man q 99 99 9 999; man r 1 1 1 1; man s 98 97 8 998;");
        int[][] due = {{0, 0, 0}, {99, 0, 999}, {1, 0, 1}, {97, 1, 998}};
        int[] behindAnHour = {0, 90, 0, 89};
        for (int man = 0; man < 4; man++) {
            Check.due("FULL of man " + man, due[man][0], x.man(man, 0));
            Check.due("room of man " + man, due[man][1], x.man(man, 1));
            Check.due("LOAD of man " + man, due[man][2], x.man(man, 4));
        }
        x.later(1);
        for (int man = 0; man < 4; man++) {
            Check.due("FULL of man " + man + " behind an hour", behindAnHour[man], x.man(man, 0));
        }
    }

    private static void fullUpToBelly() {
        for (int belly : new int[] {0, 1, 2, 50, 98, 99}) {
            number("man m " + belly + " ", 0, belly, " 0 0;");
        }
    }

    private static void hates() {
        Check.says("the DISHES he HATES,");
        for (int hated = 0; hated < 16; hated++) {
            StringBuilder text = new StringBuilder("dish a 1 0 9; dish b 1 0 9; dish c 1 0 9; dish d 1 0 9; man m 9 0 0 0");
            for (int dish = 0; dish < 4; dish++) {
                text.append((hated >> dish & 1) != 0 ? " hates " + "abcd".charAt(dish) : "");
            }
            EatenToll x = Check.told(text + "; law 0 a = 1 - hour; law 0 b = hour * (2 - hour); law 1 c = 1 - hour; law 1 d = hour * (2 - hour);");
            for (int dish = 0; dish < 4; dish++) {
                Check.due("hates " + hated + ", a bite of " + dish, (hated >> dish & 1) != 0 ? 3 : 0, x.may(0, dish / 2));
                x.later(dish % 2 == 0 ? 1 : 23);
            }
        }
        Check.right(DISH + "man m 9 0 0 0 hates a hates a;");
    }

    private static void ill() {
        Check.says("of some how many bites at once make him ILL (1 .. 6)");
        number(DISH + "man m 9 0 0 0 ill a ", 1, 6, ";");
        number(DISH + "man m 9 0 0 0 ill a 1 ill a ", 1, 6, " fast 0 1;");
    }

    private static void fast() {
        Check.says("hours of a FAST, 0 .. 23, to not below from: of each the last one told)");
        number("man m 9 0 0 0 fast ", 0, 23, " 23;");
        for (int from : new int[] {0, 1, 11, 22, 23}) {
            number("man m 9 0 0 0 fast " + from + " ", from, 23, ";");
        }
        EatenToll x = Check.told("dish a 1 0 9; dish b 1 0 9; man m 9 0 0 0 fast 0 23 fast 2 2; man n 9 0 0 0 ill a 1 ill b 2 ill a 3;"
            + "man o 9 0 0 0 ill a 3 ill b 2 ill a 1; law 0 a = 2; law 0 b = 1;");
        int[] why = {0, 0, 2, 0};
        for (int hour = 0; hour < 4; hour++) {
            Check.due("the last FAST told, hour " + hour, why[hour], x.may(0, 0));
            x.later(1);
        }
        x.pass(1, 0);
        x.pass(2, 0);
        Check.due("the last ILL told of a DISH, 3", 0, x.man(1, 2));
        Check.due("the last ILL told of a DISH, 1", 12, x.man(2, 2));
    }

    private static void bellies() {
        Check.says("BELLIES, 6 at most (for hire: a NAME, ROOM 0 .. 99, a FEE 0 .. 99)");
        number("belly b ", 0, 99, " 5;");
        number("belly b 5 ", 0, 99, ";");
    }

    private static void goings() {
        Check.says("GOINGS, 20 at most (a MAN, an hour 0 .. 23)");
        number(MEN + "goes m ", 0, 23, ";");
    }

    private static void debts() {
        Check.says("DEBTS, 20 at most (one MAN owes another one so many bites, 1 .. 99)");
        number(MEN + "owe m n ", 1, 99, ";");
        EatenToll x = Check.told(MEN + "man o 9 0 0 0; owe m n 1; owe o n 99;");
        Check.due("net(0)", -1, x.net(0));
        Check.due("net(1)", 100, x.net(1));
        Check.due("net(2)", -99, x.net(2));
    }

    private static void gates() {
        Check.says("LAW: of GATE 0 or 1, a DISH (the last one told; none: 0 bites).");
        number(DISH + "law ", 0, 1, " a = 1;");
        EatenToll x = Check.told("dish a 1 0 9; dish b 1 0 9; man m 9 0 0 0; law 0 a = 1; law 1 b = 5; law 0 a = 2; law 1 b = 4; law 0 a = 3;");
        int[][] due = {{3, 0}, {0, 4}};
        for (int gate = 0; gate < 2; gate++) {
            for (int dish = 0; dish < 2; dish++) {
                Check.due("toll(0, " + gate + ", " + dish + ")", due[gate][dish], x.toll(0, gate, dish));
            }
        }
    }

    private static void numberedAsTheyStand() {
        Check.says("are numbered each from 0 on as they stand.");
        EatenToll x = Check.told("man p 10 0 0 0; dish a 1 0 9; belly s 0 9; man q 11 0 0 0; belly t 9 1; dish b 2 0 9; man r 12 0 0 0 fast 0 23;"
            + "dish c 3 0 9; belly u 9 2; dish d 4 0 9; law 0 d = 1;");
        for (int man = 0; man < 3; man++) {
            Check.due("room of man " + man, 10 + man, x.man(man, 1));
        }
        for (int dish = 0; dish < 4; dish++) {
            Check.due("BULK of dish " + dish, 1 + dish, x.dish(dish, 1));
        }
        Check.due("the second belly has the least fee", 2, x.hire(2, 0, 1));
        Check.due("man 3", -1, x.man(3, 1));
        Check.due("dish 4", -1, x.dish(4, 1));
    }

    /** 6 tokens of the dish, 7 of a man; a law has 6 and two for each further unit. */
    private static void tokens() {
        Check.says("2 ROOM: a 401st TOKEN;");
        String law = "law 0 a=1";
        Check.right("man m 9 0 0 0;" + DISH + law + "+1".repeat(190) + ";");
        Check.right("man m 9 0 0 0;" + DISH + law + "+1".repeat(190) + "; \n");
        Check.right(DISH + law + "+1".repeat(194) + ";");
        Check.right(DISH + law + "+1".repeat(194) + "; \n");
        Check.fault(2, "man m 9 0 0 0;" + DISH + law + "+1".repeat(191) + "@;");
        Check.fault(2, DISH + law + "+1".repeat(194) + "+@1;");
        Check.fault(2, DISH + law + "+1".repeat(194) + ";@man m 9 0 0 0;");
        Check.fault(1, DISH + law + "+1".repeat(194) + "@");
    }

    /** One less than there may be, as many, and one more, which is the fault at its first token. */
    private static void most(int most, String begin, String form) {
        StringBuilder text = new StringBuilder(begin);
        for (int i = 1; i <= most; i++) {
            text.append(form.replace("#", "x" + (char) ('a' + i)));
            if (i >= most - 1) {
                Check.right(text.toString());
            }
        }
        String more = form.replace("#", "y");
        Check.fault(2, text + "@" + more);
        Check.fault(2, text + "  @" + more + more);
        Check.fault(2, text + "@" + more.substring(0, more.indexOf(' ')));
        Check.fault(2, text + "@" + more.substring(0, more.indexOf(' ')) + " =");
    }

    private static void howMany() {
        Check.says("a 5th dish, a 9th man, a 7th belly, a 21st goes, a 21st owe, a 9th law (at its first TOKEN);");
        most(4, "", "dish # 1 2 3;");
        most(8, "", "man # 9 0 0 0;");
        most(6, "", "belly # 9 0;");
        most(20, MEN, "goes m 1;");
        most(20, MEN, "owe m n 1;");
        most(8, DISH, "law 0 a = 1;");
        most(8, DISH + "dish b 1 1 1;", "law 1 b = 1;");
        Check.says("DISHES, 4 at most");
        Check.due("count(0)", 4, Check.told("dish a 1 0 0; dish b 1 0 0; dish c 1 0 0; dish d 1 0 0;").count(0));
        Check.says("MEN, 8 at most");
        EatenToll x = Check.told(MEN + "man p 1 0 0 0; man q 1 0 0 0; man r 1 0 0 0; man s 1 0 0 0; man t 1 0 0 0; man u 1 0 0 0;"
            + "goes m 1;".repeat(20) + "owe m n 1;".repeat(20) + "belly a 1 1; belly b 1 1; belly c 1 1; belly d 1 1; belly e 1 1; belly f 1 1;");
        Check.due("count(1)", 8, x.count(1));
        Check.due("count(2)", 6, x.count(2));
        Check.due("count(3)", 20, x.count(3));
        Check.due("count(4)", 20, x.count(4));
    }

    private static void ifs() {
        Check.says("a 5th if of a LAW (at it);");
        String branch = "if 2 < 1 then 3 else ";
        for (int ifs = 3; ifs <= 4; ifs++) {
            Check.right(DISH + "law 0 a = " + branch.repeat(ifs) + "5;");
        }
        Check.right(DISH + ("law 0 a = " + branch.repeat(4) + "5;").repeat(3));
        Check.fault(2, DISH + "law 0 a = " + branch.repeat(4) + "@" + branch + "5;");
        Check.fault(2, DISH + "law 0 a = " + branch.repeat(4) + "@if");
        Check.fault(2, DISH + "law 0 a = 1; law 0 a = " + branch.repeat(4) + "@if #");
        EatenToll x = Check.told("dish a 1 0 9; man m 9 0 0 0; law 0 a = " + branch.repeat(3) + "if 1 < 2 then 4 else 5;"
            + "law 1 a = " + branch.repeat(4) + "5;");
        Check.due("the fourth if holds", 4, x.toll(0, 0, 0));
        Check.due("none of four ifs holds", 5, x.toll(0, 1, 0));
    }

    private static void brackets() {
        Check.says("a 7th ( within one another (at it).");
        for (int deep = 5; deep <= 6; deep++) {
            Check.right(DISH + "law 0 a = " + "(".repeat(deep) + "1" + ")".repeat(deep) + ";");
            Check.right(DISH + "law 0 a = 2*" + "(3+".repeat(deep) + "1" + ")".repeat(deep) + "-1;");
        }
        Check.right(DISH + "law 0 a = " + "(1)+".repeat(7) + "1;");
        Check.right(DISH + "law 0 a = ((((((1)+(2)+(3))))))+((((((4))))));");
        Check.fault(2, DISH + "law 0 a = ((((((@(1)))))));");
        Check.fault(2, DISH + "law 0 a = ((((((@((1))))))));");
        Check.fault(2, DISH + "law 0 a = ((((((1)+(@(");
        Check.fault(2, DISH + "law 0 a = if 1 < ((((((@(");
        Check.fault(2, DISH + "law 0 a = if 1 < 2 then 1+2*((((((@(");
        EatenToll x = Check.told("dish a 1 0 9; man m 9 0 0 0; law 0 a = 9-(8-(7-(6-(5-(4-(3))))));");
        Check.due("9 - (8 - (7 - (6 - (5 - (4 - 3)))))", 6, x.toll(0, 0, 0));
        EatenToll y = Check.told("dish a 1 0 9; man m 9 0 0 0; law 0 a = 12/(2*(1+2/(3-(2-1/(1+0*(2))))));");
        Check.due("12 / (2 * (1 + 2 / (3 - (2 - 1 / (1 + 0 * 2)))))", 3, y.toll(0, 0, 0));
    }

    private static void firstByPlace() {
        Check.says("FAULTS of a text, the first by its place (a byte; the text's end: its length)");
        Check.fault(1, "@;" + "dish a 1 1 1;".repeat(5));
        Check.fault(1, "dish a 1 1 1;".repeat(4) + "@; dish a 1 1 1;");
        Check.fault(2, "dish a 1 1 1;".repeat(4) + "@dish ;");
        Check.fault(2, "dish a 1 1 1;".repeat(4) + "@dish a 1 1 1");
        Check.fault(1, "dish a 1 1 1;".repeat(4) + "law 0 a = 1@");
        Check.fault(1, "dish@");
        Check.fault(1, "dish   @");
        Check.says("If there is none, likewise:");
        Check.fault(5, "dish a @0 1 1; dish a 1 1 1; goes m 1;");
        Check.fault(3, "dish a 1 1 1; dish @a 0 1 1; goes m 1;");
        Check.fault(4, "dish a 1 1 1; goes @m 24; dish a 0 1 1;");
        Check.fault(5, "dish a 9 @100 1000;");
        Check.fault(1, "dish a 0 1 1; dish a 1 1 1; goes m 1@");
        Check.fault(2, "dish a 0 1 1; dish a 1 1 1; dish b 1 1 1; dish c 1 1 1; @dish d 1 1 1;");
    }

    private static void leastOfOnePlace() {
        Check.says("of one place the least:");
        // 400 tokens: the 401st is a fault of room, but of form first where no text goes on with it.
        String full = DISH + "law 0 a=1" + "+1".repeat(194) + ";";
        Check.fault(2, full + "@dish");
        Check.fault(1, full + "@;");
        Check.fault(1, full + "@#");
        Check.fault(1, full + "@abcdefghi");
        Check.fault(1, full + "@hour");
        Check.right(full);
        String open = "dish b 1 1 1;" + DISH + "law 0 a=(1" + "+1".repeat(190);
        // 6 + 6 + 6 + 380: 398 tokens, two more let the law go on.
        Check.fault(2, open + "+1@)");
        Check.fault(2, open + "+1@+");
        Check.fault(1, open + "+1@;");
        Check.fault(1, open + "+1@");
    }

    private static void twice() {
        Check.says("3 TWICE: a NAME told already (DISHES, MEN and BELLIES together).");
        String[] forms = {"dish # 1 1 1;", "man # 9 0 0 0;", "belly # 9 0;"};
        for (String first : forms) {
            for (String second : forms) {
                Check.fault(3, first.replace("#", "q") + second.replace("#", "@q"));
                Check.right(first.replace("#", "q") + second.replace("#", "qq"));
                Check.right(first.replace("#", "qq") + second.replace("#", "q"));
                Check.right(first.replace("#", "abcdefgh") + second.replace("#", "abcdefgi"));
                Check.right(first.replace("#", "abcdefgh") + second.replace("#", "bbcdefgh"));
                Check.right(first.replace("#", "abcdefgh") + second.replace("#", "abcdefg"));
                Check.fault(3, first.replace("#", "abcdefgh") + second.replace("#", "@abcdefgh"));
            }
        }
        for (char letter = 'a'; letter <= 'z'; letter++) {
            Check.right("dish " + letter + " 1 1 1; man " + letter + letter + " 9 0 0 0; belly " + letter + letter + letter + " 9 0;");
            Check.fault(3, "dish " + letter + " 1 1 1; man @" + letter + " 9 0 0 0;");
        }
        Check.fault(3, "man a 1 0 0 0; man b 1 0 0 0; man c 1 0 0 0; man d 1 0 0 0; man e 1 0 0 0; man f 1 0 0 0; man g 1 0 0 0; man @g 1 0 0 0;");
        Check.fault(3, "belly a 1 0; belly b 1 0; belly c 1 0; belly d 1 0; belly e 1 0; belly @e 1 0;");
        Check.fault(3, "dish a 1 0 0; dish b 1 0 0; dish c 1 0 0; dish @c 1 0 0;");
    }

    private static void names() {
        Check.says("4 NAME: no such one told ahead (hates, ill, law: DISHES; goes, owe: MEN).");
        String all = DISH + MEN + "belly b 9 0;";
        String[] dishes = {"man p 9 0 0 0 hates #;", "man p 9 0 0 0 ill # 3;", "law 1 # = 1;"};
        String[] men = {"goes # 3;", "owe # n 1;", "owe m # 1;"};
        for (String form : dishes) {
            Check.right(all + form.replace("#", "a"));
            for (String no : new String[] {"aa", "b", "m", "p", "z"}) {
                Check.fault(4, all + form.replace("#", "@" + no));
            }
            Check.fault(4, all + form.replace("#", "@c") + "dish c 1 1 1;");
            Check.right(all + "dish c 1 1 1;" + form.replace("#", "c"));
        }
        for (String form : men) {
            for (String no : new String[] {"mm", "a", "b", "z"}) {
                Check.fault(4, all + form.replace("#", "@" + no));
            }
            Check.fault(4, all + form.replace("#", "@q") + "man q 9 0 0 0;");
            Check.right(all + "man q 9 0 0 0;" + form.replace("#", "q"));
        }
    }

    private static void owesHimself() {
        Check.says("5 WRONG (at the INT): a number not as told above; (at the second NAME) one who owes himself.");
        Check.right(MEN + "owe m n 1; owe n m 1;");
        Check.fault(5, MEN + "owe m @m 1;");
        Check.fault(5, MEN + "owe n @n 0;");
        Check.fault(4, MEN + "owe @x x 1;");
    }

    private static EatenToll lived() {
        EatenToll x = Check.told("dish a 1 2 30; dish b 2 1 30; man m 20 3 1 7 ill a 2; man n 20 3 1 8; law 0 a = 2; law 1 b = 1 + ahead;"
            + "belly q 9 1; goes m 9; owe m n 3;");
        x.later(25);
        x.pass(0, 0);
        x.pass(1, 1);
        x.enter(0, 0, 4);
        x.enter(1, 1, 4);
        x.hold(0);
        x.later(1);
        return x;
    }

    private static void aFaultChangesNothing() {
        Check.says("A text with a FAULT changes nothing but the tape;");
        String[] texts = {"dish c 1 1 1; man o 9 0 0 0; law 0 c = 6;#", "dish c 1 1 1;".repeat(5), "dish c 1 1 1; dish c 1 1 1;",
            "dish c 1 1 1; law 0 c = 6; goes m 3;", "dish c 9 9 9; man o 9 9 9 9; law 0 c = 6; law 1 c = 6; owe o o 3;"};
        for (int fault = 1; fault <= 5; fault++) {
            EatenToll x = lived();
            long[] before = Look.at(x);
            Check.put(x, texts[fault - 1]);
            Check.due("read() of " + texts[fault - 1], fault, x.read());
            Check.due("the tape is empty then", 0, x.count(8));
            Look.same("behind fault " + fault, before, Look.at(x));
            Check.due("restore(0)", true, x.restore(0));
            Check.due("count(5)", 1, x.count(5));
        }
    }

    private static void inPlaceOfTheOneAhead() {
        Check.says("else it is in place of the one ahead: it is hour 0 of day 0, none has passed, none is SICK,"
            + " STORES and what is FULL as told, nothing can be undone, no BOOK, SLOTS hold nothing.");
        String text = "dish c 3 4 5; man o 9 2 1 6; man p 8 1 1 5; law 0 c = 1;";
        EatenToll x = lived();
        Check.put(x, text);
        Check.due("read()", 0, x.read());
        Look.same("in place of the one ahead", Look.at(Check.told(text)), Look.at(x));
        int[] counts = {1, 2, 0, 0, 0, 0, 0, 0, 0, 0, 0, 0, 0};
        for (int what = 0; what < counts.length; what++) {
            Check.due("count(" + what + ")", counts[what], x.count(what));
        }
        Check.due("none has passed", 0, x.man(0, 5) + x.man(1, 5));
        Check.due("none is SICK", 0, x.man(0, 2) + x.man(1, 2));
        Check.due("STORE as told", 5, x.dish(0, 0));
        Check.due("FULL as told", 2, x.man(0, 0));
        Check.due("FULL as told", 1, x.man(1, 0));
        Check.due("nothing can be undone", false, x.undo());
        Check.due("no BOOK", -1, x.judge(1));
        for (int slot = 0; slot < 3; slot++) {
            Check.due("SLOT " + slot + " holds nothing", false, x.restore(slot));
        }
    }

    /** Neither laws nor traits of the text ahead are left. */
    private static void nothingIsLeft() {
        String two = "dish a 1 1 9; dish b 1 1 9; man m 9 0 0 0; man n 9 0 0 0;";
        EatenToll x = Check.told(two.replace("0;", "0 hates a ill b 1 fast 0 23;") + "law 0 a = 1; law 0 b = 2; law 1 a = 3; law 1 b = 4;");
        Check.put(x, two);
        Check.due("read()", 0, x.read());
        for (int gate = 0; gate < 2; gate++) {
            for (int dish = 0; dish < 2; dish++) {
                Check.due("toll(0, " + gate + ", " + dish + ")", 0, x.toll(0, gate, dish));
            }
        }
        Check.put(x, two + "law 0 a = 1; law 1 b = 1;");
        Check.due("read()", 0, x.read());
        for (int man = 0; man < 2; man++) {
            Check.due("no hate, no fast: pass(" + man + ", 0)", 0, x.pass(man, 0));
            Check.due("no illness: pass(" + man + ", 1)", 0, x.pass(man, 1));
            Check.due("no illness: man(" + man + ", 2)", 0, x.man(man, 2));
        }
        Check.due("no bite of b at gate 0", 0, x.toll(0, 0, 1));
    }

    /** A text that broke off within an expression leaves nothing to the next one. */
    private static void behindBrokenTexts() {
        String right = "dish a 1 2 3; man m 9 0 0 0; law 0 a = 2; law 1 a = 1 + 2;";
        String[] broken = {"law 0 a = 1 + 2 * (3 - 4 / (", "law 0 a = 1 + 2 *", "law 0 a = if 1 < 2 then 3 - ((((((1 + 2 * #",
            "law 0 a = ((((((1 + 2 * ((", "man n 9 0 0 0 hates a ill a 1 fast 0 23 hates", "law 0 a = 1; law 1 a = 5; owe m m 3;"};
        for (String text : broken) {
            EatenToll x = new EatenToll();
            Check.put(x, "dish a 1 2 3; man m 9 0 0 0;" + text);
            Check.due("read() of " + text, true, x.read() > 0);
            Check.put(x, right);
            Check.due("read() behind " + text, 0, x.read());
            Check.due("toll(0, 0, 0) behind " + text, 2, x.toll(0, 0, 0));
            Check.due("toll(0, 1, 0) behind " + text, 3, x.toll(0, 1, 0));
            Check.due("net(0) behind " + text, 0, x.net(0));
            Check.due("may(0, 0) behind " + text, 0, x.may(0, 0));
        }
    }

    /** A text of 400 tokens finds the same room behind others of them. */
    private static void fullTextsAgain() {
        EatenToll x = new EatenToll();
        for (int time = 1; time <= 5; time++) {
            Check.put(x, "dish a 1 2 3;law 0 a=1" + "+0".repeat(189) + ";" + "man m 9 0 0 0 fast 1 1;");
            Check.due("read() of 400 tokens", 0, x.read());
            Check.due("toll(0, 0, 0)", 1, x.toll(0, 0, 0));
        }
    }
}
