/** Promises 28 to 32: enter, burn, judge, odd, led. */
public final class BookTest {
    public static void main(String[] args) {
        enter();
        full();
        judge();
        fromTheBegin();
        odd();
        led();
        Check.end();
    }

    private static void enter() {
        EatenToll x = Check.told("dish a 1 1 9; man m 9 0 0 0; man n 9 0 0 0;");
        int[][] no = {{-1, 0, 0}, {2, 0, 0}, {0, -1, 0}, {0, 2, 0}, {0, 0, -1}, {0, 0, 24}};
        for (int[] entry : no) {
            Check.due("enter of no such", -1, x.enter(entry[0], entry[1], entry[2]));
        }
        Check.due("count(7)", 0, x.count(7));
        Check.due("enter(0, 0, 5)", 0, x.enter(0, 0, 5));
        Check.due("enter(1, 1, 5)", 1, x.enter(1, 1, 5));
        Check.due("enter(1, 1, 4)", -1, x.enter(1, 1, 4));
        Check.due("enter(0, 1, 23)", 2, x.enter(0, 1, 23));
        Check.due("count(7)", 3, x.count(7));
        Check.due("burn()", 3, x.burn());
        Check.due("burn()", 0, x.burn());
        Check.due("count(7)", 0, x.count(7));
        Check.due("enter(0, 0, 0)", 0, x.enter(0, 0, 0));
    }

    private static void full() {
        EatenToll x = Check.told("dish a 1 1 9; man m 9 0 0 0; man n 9 0 0 0;");
        for (int i = 0; i < 30; i++) {
            Check.due("enter no. " + i, i, x.enter(0, 0, i / 2));
        }
        Check.due("enter of a 31st", -1, x.enter(0, 0, 23));
        Check.due("count(7)", 30, x.count(7));
        Check.due("judge(30)", -2, x.judge(30));
        Check.due("judge(31)", -1, x.judge(31));
        Check.due("odd(30)", -2, x.odd(30));
        Check.due("led(30, -1, -1)", 0, x.led(30, -1, -1));
        Check.due("burn()", 30, x.burn());
    }

    private static void judge() {
        EatenToll x = Check.told("dish a 2 1 9; man m 9 0 2 0; man faster 9 0 0 0 fast 3 4; man poorly 9 0 0 0 ill a 2;"
            + "man hater 9 0 0 0 hates a; law 0 a = 2; law 1 a = 1 + ahead;");
        Check.due("judge(0)", -2, x.judge(0));
        Check.due("judge(1)", -1, x.judge(1));
        Check.due("judge(-1)", -1, x.judge(-1));
        x.enter(0, 0, 0);
        x.enter(0, 0, 0);
        x.enter(0, 0, 1);
        Check.due("judge(2)", -2, x.judge(2));
        Check.due("judge(3)", 25, x.judge(3));
        x.burn();
        x.enter(1, 0, 2);
        x.enter(1, 1, 3);
        Check.due("a fast", 12, x.judge(2));
        x.burn();
        x.enter(2, 0, 2);
        x.enter(2, 1, 13);
        Check.due("sick", 11, x.judge(2));
        x.burn();
        x.enter(2, 0, 2);
        x.enter(2, 1, 14);
        Check.due("well again", -2, x.judge(2));
        x.burn();
        x.enter(3, 1, 2);
        Check.due("hates", 3, x.judge(1));
        x.burn();
        for (int i = 0; i < 5; i++) {
            x.enter(0, 0, 3 * i);
        }
        Check.due("the store", 44, x.judge(5));
        Check.due("the store does", -2, x.judge(4));
        x.burn();
        x.enter(0, 1, 0);
        x.enter(1, 1, 0);
        x.enter(2, 1, 5);
        Check.due("ahead", -2, x.judge(3));
        Check.due("ahead: bites", 1 + 2 + 3, x.led(3, -1, 0));
        Check.due("nothing happened", 0, x.man(0, 3));
    }

    /** Neither what has happened since nor the hour now counts. */
    private static void fromTheBegin() {
        EatenToll x = Check.told("dish a 1 1 3; man m 3 0 0 0; law 0 a = 3; law 1 a = if hour < 1 then 2 else 1;");
        x.pass(0, 0);
        x.later(30);
        x.enter(0, 1, 0);
        x.enter(0, 1, 9);
        Check.due("judge(2)", -2, x.judge(2));
        Check.due("led(2, 0, 0)", 3, x.led(2, 0, 0));
        Check.due("count(5)", 6, x.count(5));
        Check.due("dish(0, 0)", 0, x.dish(0, 0));
        x.undo();
        x.undo();
        Check.due("count(7)", 2, x.count(7));
        x.hold(0);
        x.restore(0);
        Check.due("count(7)", 2, x.count(7));
    }

    private static void odd() {
        EatenToll x = Check.told("dish a 1 1 9; man m 4 0 0 0; man n 4 0 0 0; law 0 a = 2; law 1 a = 3;");
        Check.due("odd(0)", -2, x.odd(0));
        Check.due("odd(1)", -1, x.odd(1));
        Check.due("odd(-1)", -1, x.odd(-1));
        x.enter(0, 0, 0);
        x.enter(0, 0, 1);
        x.enter(0, 0, 2);
        Check.due("all may", -2, x.odd(2));
        Check.due("the first of any", 0, x.odd(3));
        x.enter(0, 0, 3);
        Check.due("two too many", -2, x.odd(4));
        x.burn();
        x.enter(1, 0, 0);
        x.enter(0, 1, 0);
        x.enter(0, 0, 1);
        x.enter(1, 0, 2);
        Check.due("judge(4)", 25, x.judge(4));
        Check.due("the second", 1, x.odd(4));
        x.burn();
        x.enter(0, 0, 0);
        x.enter(1, 0, 0);
        x.enter(1, 1, 0);
        Check.due("judge(3)", 25, x.judge(3));
        Check.due("the one ahead of it", 1, x.odd(3));
        x.burn();
        x.enter(1, 1, 0);
        x.enter(1, 0, 0);
        x.enter(0, 1, 0);
        Check.due("the first", 0, x.odd(3));
        EatenToll alone = Check.told("dish a 5 1 9; man m 4 0 0 0; law 0 a = 1;");
        alone.enter(0, 0, 0);
        Check.due("one who never may", 0, alone.odd(1));
    }

    private static void led() {
        EatenToll x = Check.told("dish a 1 1 9; dish b 2 1 9; man m 9 0 0 0; man n 9 0 0 0; law 0 a = 2; law 1 a = 1; law 1 b = 2;");
        x.enter(0, 0, 0);
        x.enter(1, 1, 0);
        x.enter(0, 1, 5);
        x.enter(1, 0, 5);
        int[][] led = {{0, -1, -1, 0}, {1, -1, -1, 2}, {1, 0, 0, 2}, {1, 0, 1, 0}, {1, 1, -1, 0}, {2, 1, -1, 3}, {2, 1, 1, 2},
            {2, -1, 0, 3}, {3, 0, -1, 5}, {3, -1, 1, 4}, {4, -1, -1, 10}, {4, 1, 0, 3}, {5, 0, 0, -1}, {-1, 0, 0, -1},
            {4, 2, 0, -1}, {4, -2, 0, -1}, {4, 0, 2, -1}, {4, 0, -2, -1}};
        for (int[] l : led) {
            Check.due("led(" + l[0] + ", " + l[1] + ", " + l[2] + ")", l[3], x.led(l[0], l[1], l[2]));
        }
        x.enter(0, 1, 6);
        Check.due("judge(5)", 45, x.judge(5));
        Check.due("led of one who may not", -2, x.led(5, -1, -1));
        Check.due("led of no such man", -1, x.led(5, 2, -1));
        Check.due("led of those ahead", 10, x.led(4, -1, -1));
    }
}
