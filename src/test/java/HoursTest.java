/** Promises 11 to 13: later, undo, when. */
public final class HoursTest {
    public static void main(String[] args) {
        later();
        undo();
        lastThirty();
        when();
        Check.end();
    }

    private static void later() {
        EatenToll x = Check.told("dish a 1 1 9; man m 30 10 3 0; man n 9 9 0 0; law 0 a = 1;");
        Check.due("later(0)", 0, x.later(0));
        Check.due("count(9)", 0, x.count(9));
        Check.due("later(-1)", -1, x.later(-1));
        Check.due("later(241)", -1, x.later(241));
        Check.due("later(min)", -1, x.later(Integer.MIN_VALUE));
        Check.due("count(5)", 0, x.count(5));
        x.pass(0, 0);
        Check.due("later(2)", 2, x.later(2));
        Check.due("man(0, 0)", 5, x.man(0, 0));
        Check.due("man(1, 0)", 9, x.man(1, 0));
        Check.due("later(21)", 23, x.later(21));
        Check.due("man(0, 0)", 0, x.man(0, 0));
        Check.due("man(0, 5)", 1, x.man(0, 5));
        Check.due("count(11)", 1, x.count(11));
        Check.due("later(1)", 0, x.later(1));
        Check.due("count(6)", 1, x.count(6));
        Check.due("man(0, 5)", 0, x.man(0, 5));
        Check.due("count(11)", 0, x.count(11));
        Check.due("gained(0)", 1, x.gained(0));
        Check.due("later(240)", 0, x.later(240));
        Check.due("count(6)", 11, x.count(6));
        Check.due("count(9)", 5, x.count(9));
    }

    private static void undo() {
        EatenToll x = Check.told("dish a 2 3 9; man m 30 10 3 0 ill a 2; law 0 a = 2;");
        Check.due("undo() of nothing", false, x.undo());
        x.later(5);
        x.pass(0, 0);
        Check.due("man(0, 2)", 12, x.man(0, 2));
        x.later(30);
        Check.due("count(6)", 1, x.count(6));
        Check.due("count(9)", 3, x.count(9));
        Check.due("undo() of hours", true, x.undo());
        Check.due("count(5)", 5, x.count(5));
        Check.due("count(6)", 0, x.count(6));
        Check.due("man(0, 2)", 12, x.man(0, 2));
        Check.due("man(0, 0)", 4, x.man(0, 0));
        Check.due("man(0, 5)", 1, x.man(0, 5));
        Check.due("count(11)", 1, x.count(11));
        Check.due("undo() of a pass", true, x.undo());
        Check.due("man(0, 0)", 0, x.man(0, 0));
        Check.due("man(0, 2)", 0, x.man(0, 2));
        Check.due("man(0, 3)", 0, x.man(0, 3));
        Check.due("man(0, 5)", 0, x.man(0, 5));
        Check.due("dish(0, 0)", 9, x.dish(0, 0));
        Check.due("dish(0, 3)", 0, x.dish(0, 3));
        Check.due("gained(0)", 0, x.gained(0));
        Check.due("count(11)", 0, x.count(11));
        Check.due("undo()", true, x.undo());
        Check.due("man(0, 0)", 10, x.man(0, 0));
        Check.due("undo() of nothing", false, x.undo());
        Check.due("pass(0, 0) that may not", 0, x.pass(0, 0));
        Check.due("pass(0, 0) that may not", 1, x.pass(0, 0));
        Check.due("count(9)", 1, x.count(9));
    }

    private static void lastThirty() {
        EatenToll x = Check.told("man m 30 10 3 0;");
        for (int i = 0; i < 35; i++) {
            x.later(1);
        }
        Check.due("count(9)", 30, x.count(9));
        Check.due("count(5)", 11, x.count(5));
        for (int i = 34; i >= 5; i--) {
            Check.due("undo()", true, x.undo());
            Check.due("count(5)", i % 24, x.count(5));
        }
        Check.due("undo()", false, x.undo());
        Check.due("count(5)", 5, x.count(5));
        for (int i = 0; i < 31; i++) {
            Check.due("later(2)", (5 + 2 * i + 2) % 24, x.later(2));
            Check.due("undo()", true, x.undo());
            Check.due("later(2)", (5 + 2 * i + 2) % 24, x.later(2));
        }
        Check.due("count(9)", 30, x.count(9));
    }

    private static void when() {
        EatenToll x = Check.told("dish a 2 1 20; man m 9 9 1 0; man faster 9 0 1 0 fast 0 22; man never 9 9 0 0;"
            + "man hater 9 0 0 0 hates a; man poorly 20 0 9 0 ill a 3; man always 9 0 0 0 fast 0 23;"
            + "law 0 a = 3; law 1 a = if ahead < 1 then 1 else 5;");
        int[] hours = {6, 23, -2, -2, 0, -2};
        for (int man = 0; man < 6; man++) {
            Check.due("when(" + man + ", 0)", hours[man], x.when(man, 0));
        }
        Check.due("count(5)", 0, x.count(5));
        Check.due("when(0, 1)", 2, x.when(0, 1));
        x.pass(4, 0);
        Check.due("when he is well again", 12, x.when(4, 0));
        Check.due("pass(1, 1)", 2, x.pass(1, 1));
        x.later(1);
        Check.due("pass(3, 1)", 3, x.pass(3, 1));
        Check.due("nothing happened", 0, x.man(4, 3) - 3);
        Check.due("when(6, 0)", -1, x.when(6, 0));
        Check.due("when(-1, 0)", -1, x.when(-1, 0));
        Check.due("when(0, 2)", -1, x.when(0, 2));
        Check.due("when(0, -1)", -1, x.when(0, -1));
        EatenToll y = Check.told("dish a 1 1 99; man m 3 0 0 0; man n 3 0 0 0; law 0 a = if ahead < 1 then 1 else 5;"
            + "law 1 a = if hour < 5 then 1 else 4;");
        y.later(6);
        Check.due("pass(0, 0)", 0, y.pass(0, 0));
        Check.due("none has passed the next day", 18, y.when(1, 0));
        Check.due("hours of the next day", 18, y.when(1, 1));
        Check.due("nothing happened", 6, y.count(5));
        EatenToll z = Check.told("dish a 1 1 2; man m 9 0 0 0; law 0 a = 3;");
        Check.due("a store that never has enough", -2, z.when(0, 0));
        EatenToll last = Check.told("dish a 1 1 9; man m 24 24 1 0; law 0 a = if full < 1 then 5 else 6;"
            + "law 1 a = if 23 < full then 6 else if 0 < full then 6 else 6;");
        Check.due("when(0, 1)", 6, last.when(0, 1));
        EatenToll edge = Check.told("dish a 8 1 9; man m 24 24 1 0; law 0 a = 3; man n 23 23 1 0; law 1 a = 3;"
            + "dish b 1 1 9; law 1 b = 0; man o 96 96 4 0; law 1 a = 6;");
        Check.due("24 hours are one too many", -2, edge.when(0, 0));
        Check.due("12 hours", 12, edge.when(2, 1));
    }
}
