/** Promises 6 to 10 and 27: man, dish, toll, may, pass, gained. */
public final class GateTest {
    public static void main(String[] args) {
        lookAtMen();
        lookAtDishes();
        laws();
        wrapAndDivide();
        vars();
        whyNot();
        orderOfWhy();
        sickIsOne();
        passing();
        illness();
        twiceTold();
        Check.end();
    }

    /** What the law of the only dish tells an ordinary man (room 8 of 9, load 40, 5 in store). */
    private static void law(int bites, String law) {
        EatenToll x = Check.told("dish a 1 2 5; man m 9 1 1 40; law 0 a = " + law + ";");
        Check.due(law, bites, x.toll(0, 0, 0));
    }

    private static void lookAtMen() {
        EatenToll x = Check.told("dish a 2 3 50; man m 10 4 1 100; man n 99 0 0 999; law 1 a = 3;");
        int[] first = {4, 6, 0, 0, 100, 0};
        for (int what = 0; what < 6; what++) {
            Check.due("man(0, " + what + ")", first[what], x.man(0, what));
        }
        Check.due("man(1, 1)", 99, x.man(1, 1));
        Check.due("man(1, 4)", 999, x.man(1, 4));
        int[][] none = {{-1, 0}, {2, 0}, {8, 0}, {0, -1}, {0, 6}, {Integer.MAX_VALUE, 0}, {Integer.MIN_VALUE, 0},
            {0, Integer.MIN_VALUE}};
        for (int[] no : none) {
            Check.due("man(" + no[0] + ", " + no[1] + ")", -1, x.man(no[0], no[1]));
        }
        Check.due("pass(0, 1)", 0, x.pass(0, 1));
        int[] then = {10, 0, 0, 3, 100, 1};
        for (int what = 0; what < 6; what++) {
            Check.due("behind a pass: man(0, " + what + ")", then[what], x.man(0, what));
        }
        Check.due("man(1, 5)", 0, x.man(1, 5));
        x.later(24);
        Check.due("next day: man(0, 5)", 0, x.man(0, 5));
        Check.due("next day: man(0, 3)", 3, x.man(0, 3));
    }

    private static void lookAtDishes() {
        EatenToll x = Check.told("dish a 2 3 50; dish b 9 99 0; man m 30 0 1 100; law 1 a = 3;");
        x.pass(0, 1);
        int[] first = {47, 2, 3, 3};
        int[] other = {0, 9, 99, 0};
        for (int what = 0; what < 4; what++) {
            Check.due("dish(0, " + what + ")", first[what], x.dish(0, what));
            Check.due("dish(1, " + what + ")", other[what], x.dish(1, what));
        }
        int[][] none = {{-1, 0}, {2, 0}, {4, 0}, {0, -1}, {0, 4}, {Integer.MAX_VALUE, 1}, {0, Integer.MAX_VALUE}};
        for (int[] no : none) {
            Check.due("dish(" + no[0] + ", " + no[1] + ")", -1, x.dish(no[0], no[1]));
        }
    }

    private static void laws() {
        law(3, "3");
        law(6, "7");
        law(6, "9999");
        law(0, "0 - 1");
        law(1, "1 + 2 * 3 - 4 - 2");
        law(5, "(1 + 2) * 3 - 4");
        law(2, "7 - 3 - 2");
        law(3, "8 - (7 - 2)");
        law(1, "8 / 4 / 2");
        law(4, "8 / (4 / 2)");
        law(6, "8 / 4 * 3");
        law(3, "7 / 2");
        law(2, "(0 - 7) / 2 + 5");
        law(2, "7 / (0 - 2) + 5");
        law(1, "if 1 < 2 then 1 else 2");
        law(2, "if 2 < 2 then 1 else 2");
        law(2, "if 3 < 2 then 1 else 2");
        law(3, "if 3 < 2 then 1 else if 1 < 2 then 3 else 4");
        law(1, "if 0 < 2 then 1 else if 1 < 2 then 3 else 4");
        law(5, "if 3 < 2 then 1 else if 4 < 2 then 2 else if 5 < 2 then 3 else if 6 < 2 then 4 else 5");
        law(4, "if 3 < 2 then 1 else if 4 < 2 then 2 else if 5 < 2 then 3 else if 1 < 2 then 4 else 5");
        law(2, "((((((1+1))))))");
        law(6, "1+1*(1+1*(1+1*(1+1*(1+1*(1+1*(1+1*1))))))");
        law(3, "if 1+1*(1+1*(1+1*(1+1*(1+1*(1+1*1)))))<1+1*(1+1*(1+1*(1+1*(1+1*(1+1*2))))) then 3 else 4");
        EatenToll x = Check.told("dish a 2 1 9; dish b 3 1 9; man m 9 0 0 0; law 0 a = 2; law 1 b = 1;");
        int[][] tolls = {{0, 0, 0, 2}, {0, 0, 1, 0}, {0, 0, -1, 4}, {0, 1, 0, 0}, {0, 1, 1, 1}, {0, 1, -1, 3},
            {1, 0, 0, -1}, {-1, 0, 0, -1}, {0, 2, 0, -1}, {0, -1, 0, -1}, {0, 0, 2, -1}, {0, 0, -2, -1}};
        for (int[] t : tolls) {
            Check.due("toll(" + t[0] + ", " + t[1] + ", " + t[2] + ")", t[3], x.toll(t[0], t[1], t[2]));
        }
    }

    private static void wrapAndDivide() {
        law(5, "9999 * 9999 * 9999 * 0 + 5");
        // 65536 * 65536 wraps to 0, 65536 * 32768 to the least int, which over -1 is itself again.
        law(4, "256 * 256 * 256 * 256 + 4");
        law(1, "if 256 * 256 * 256 * 128 < 0 then 1 else 2");
        law(1, "if 256 * 256 * 256 * 128 / (0 - 1) < 0 then 1 else 2");
        law(1, "if 0 < 256 * 256 * 256 * 128 - 1 then 1 else 2");
        law(0, "1 / 0");
        law(0, "5 + 1 / 0");
        law(0, "5 + 0 * (1 / (2 - 2))");
        law(0, "if 1 / 0 < 2 then 3 else 4");
        law(0, "if 2 < 1 / 0 then 3 else 4");
        law(0, "if 1 < 2 then 3 / 0 else 4");
        law(4, "if 2 < 1 then 3 / 0 else 4");
        law(3, "if 1 < 2 then 3 else 4 / 0");
        law(3, "if 1 < 2 then 3 else if 1 / 0 < 2 then 4 else 5");
        law(0, "if 2 < 1 then 3 else if 1 / 0 < 2 then 4 else 5");
        law(0, "0 / 0");
        law(0, "0 / 5");
    }

    private static void vars() {
        law(0, "hour");
        law(4, "load / 10");
        law(6, "room - 2");
        law(1, "full");
        law(0, "ahead");
        law(5, "left");
        law(0, "sick");
        EatenToll x = Check.told("dish a 1 0 9; dish b 1 0 4; man m 20 5 2 0 ill a 2; man n 20 5 2 0;"
            + "law 0 a = hour; law 0 b = left; law 1 a = ahead; law 1 b = if sick < 1 then full else 6 + room * 0;");
        x.later(3);
        Check.due("hour", 3, x.toll(0, 0, 0));
        Check.due("left", 4, x.toll(0, 0, 1));
        Check.due("full behind 3 hours", 0, x.toll(0, 1, 1));
        Check.due("pass(0, 0)", 0, x.pass(0, 0));
        Check.due("left behind a pass", 0, x.toll(1, 0, 1));
        Check.due("ahead of the other gate", 0, x.toll(1, 1, 0));
        Check.due("sick", 6, x.toll(0, 1, 1));
        Check.due("not sick", 0, x.toll(1, 1, 1));
        Check.due("pass(1, 1)", 0, x.pass(1, 1));
        Check.due("ahead", 1, x.toll(1, 1, 0));
        Check.due("pass(1, 1)", 0, x.pass(1, 1));
        Check.due("ahead twice", 2, x.toll(0, 1, 0));
        x.later(21);
        Check.due("ahead next day", 0, x.toll(1, 1, 0));
        Check.due("hour next day", 0, x.toll(1, 0, 0));
    }

    /** sick is 1 up to the last hour, and 0 then. */
    private static void sickIsOne() {
        EatenToll x = Check.told("dish a 1 0 99; man m 99 0 0 0 ill a 1; law 0 a = 3; law 1 a = 2 + sick * 3;");
        Check.due("well", 2, x.toll(0, 1, 0));
        x.pass(0, 0);
        Check.due("sick", 5, x.toll(0, 1, 0));
        x.later(11);
        Check.due("sick for an hour more", 5, x.toll(0, 1, 0));
        Check.due("who is sick swallows nothing", 5, x.tongue(0, 1));
        Check.due("who is sick swallows nothing", -2, x.hire(0, 1, 0));
        x.later(1);
        Check.due("well again", 2, x.toll(0, 1, 0));
        Check.due("who is well swallows", 0, x.tongue(0, 1));
        Check.due("who is well swallows", 0, x.hire(0, 1, 0));
    }

    private static void whyNot() {
        EatenToll x = Check.told("dish a 3 1 7; man ok 9 3 0 0; man stuffed 9 4 0 0; man faster 9 0 0 0 fast 0 1;"
            + "man hater 9 0 0 0 hates a; man poorly 9 0 0 0 ill a 2; law 0 a = 2;");
        int[] why = {0, 5, 2, 3, 0};
        for (int man = 0; man < 5; man++) {
            Check.due("may(" + man + ", 0)", why[man], x.may(man, 0));
            Check.due("may(" + man + ", 1), where nothing is laid", 0, x.may(man, 1));
        }
        x.pass(4, 0);
        Check.due("sick: may(4, 0)", 1, x.may(4, 0));
        Check.due("sick: may(4, 1)", 1, x.may(4, 1));
        x.later(1);
        Check.due("in a fast: may(2, 0)", 2, x.may(2, 0));
        Check.due("in a fast: may(2, 1)", 0, x.may(2, 1));
        x.later(1);
        Check.due("behind a fast: may(2, 0)", 0, x.may(2, 0));
        x.pass(0, 0);
        x.pass(2, 0);
        Check.due("dish(0, 0)", 1, x.dish(0, 0));
        Check.due("store too small", 4, x.may(1, 0));
        int[][] none = {{-1, 0}, {5, 0}, {0, -1}, {0, 2}, {Integer.MIN_VALUE, 0}, {0, Integer.MAX_VALUE}};
        for (int[] no : none) {
            Check.due("may(" + no[0] + ", " + no[1] + ")", -1, x.may(no[0], no[1]));
            Check.due("pass(" + no[0] + ", " + no[1] + ")", -1, x.pass(no[0], no[1]));
        }
    }

    /** Of several reasons the first is told: each man has one reason less ahead of the others. */
    private static void orderOfWhy() {
        EatenToll x = Check.told("dish a 9 1 1; dish b 1 1 9; man all 1 0 0 0 fast 0 23 hates a; man three 1 0 0 0 hates a;"
            + "man two 1 0 0 0; man one 99 0 0 0; man weak 1 0 0 0 hates a ill b 1; law 0 a = 2; law 1 b = 1;");
        int[] why = {2, 3, 4, 4, 3};
        for (int man = 0; man < 5; man++) {
            Check.due("may(" + man + ", 0)", why[man], x.may(man, 0));
        }
        Check.due("pass(4, 1)", 0, x.pass(4, 1));
        Check.due("sick and all the rest", 1, x.may(4, 0));
        EatenToll y = Check.told("dish a 9 1 2; man two 1 0 0 0; law 0 a = 2;");
        Check.due("store just enough, no room", 5, y.may(0, 0));
    }

    private static void passing() {
        EatenToll x = Check.told("dish a 2 5 10; dish b 3 1 2; man m 20 1 1 0; man n 20 0 0 0; law 0 a = 3; law 0 b = 2;");
        Check.due("pass(0, 0)", 0, x.pass(0, 0));
        Check.due("man(0, 0)", 13, x.man(0, 0));
        Check.due("man(0, 3)", 5, x.man(0, 3));
        Check.due("dish(0, 0)", 7, x.dish(0, 0));
        Check.due("dish(1, 0)", 0, x.dish(1, 0));
        Check.due("dish(0, 3)", 3, x.dish(0, 3));
        Check.due("dish(1, 3)", 2, x.dish(1, 3));
        Check.due("gained(0)", 17, x.gained(0));
        Check.due("gained(1)", 0, x.gained(1));
        Check.due("gained(2)", -1, x.gained(2));
        Check.due("gained(-1)", -1, x.gained(-1));
        Check.due("count(11)", 1, x.count(11));
        Check.due("pass(1, 0)", 4, x.pass(1, 0));
        Check.due("nothing happened: man(1, 0)", 0, x.man(1, 0));
        Check.due("nothing happened: man(1, 5)", 0, x.man(1, 5));
        Check.due("nothing happened: count(11)", 1, x.count(11));
        Check.due("nothing happened: count(9)", 1, x.count(9));
        Check.due("pass(1, 1) of no bite", 0, x.pass(1, 1));
        Check.due("man(1, 5)", 1, x.man(1, 5));
        Check.due("man(1, 3)", 0, x.man(1, 3));
        Check.due("count(12)", 1, x.count(12));
        Check.due("count(9)", 2, x.count(9));
    }

    private static void illness() {
        EatenToll x = Check.told("dish a 1 0 99; dish b 1 0 99; man m 99 0 0 0 ill a 3 ill b 2; law 0 a = 2; law 0 b = 1;"
            + "law 1 a = 1; law 1 b = 4;");
        x.pass(0, 0);
        Check.due("below what makes ill", 0, x.man(0, 2));
        x.pass(0, 0);
        Check.due("more, but not at once", 0, x.man(0, 2));
        x.pass(0, 1);
        Check.due("more than makes ill", 12, x.man(0, 2));
        Check.due("he swallowed it all", 11, x.man(0, 3));
        x.later(11);
        Check.due("an hour left", 1, x.man(0, 2));
        Check.due("may(0, 0)", 1, x.may(0, 0));
        x.later(1);
        Check.due("well again", 0, x.man(0, 2));
        Check.due("may(0, 0)", 0, x.may(0, 0));
        x.later(1);
        Check.due("not below 0", 0, x.man(0, 2));
    }

    private static void twiceTold() {
        EatenToll x = Check.told("dish a 1 0 99; dish b 1 0 99; man m 99 0 0 0 ill a 1 ill a 5 fast 0 3 fast 7 7 hates b;"
            + "man both 99 0 0 0 hates a hates b; law 0 a = 1; law 0 a = 4; law 1 b = 1;");
        Check.due("the last law counts", 4, x.toll(0, 0, 0));
        Check.due("the last fast counts", 0, x.pass(0, 0));
        Check.due("the last illness counts", 0, x.man(0, 2));
        Check.due("all that is hated counts", 3, x.may(1, 0));
        Check.due("all that is hated counts", 3, x.may(1, 1));
        x.later(7);
        Check.due("the last fast counts", 2, x.may(0, 0));
    }
}
