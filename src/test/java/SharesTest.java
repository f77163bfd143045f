/** Promises 14 to 18: hire, tongue, together, split, odds. */
public final class SharesTest {
    public static void main(String[] args) {
        hire();
        hireForWholeBites();
        hireAndStore();
        manyBites();
        withSomeAhead();
        tongue();
        together();
        togetherAhead();
        wideRooms();
        odds();
        Check.end();
    }

    private static void hired(int fee, int bits, EatenToll x, int man, int gate) {
        Check.due("hire(" + man + ", " + gate + ", 0)", fee, x.hire(man, gate, 0));
        Check.due("hire(" + man + ", " + gate + ", 1)", bits, x.hire(man, gate, 1));
    }

    private static void hire() {
        EatenToll x = Check.told("dish a 2 1 99; dish b 3 1 99; man ok 20 0 0 0; man small 6 0 0 0; man hater 20 0 0 0 hates b;"
            + "man faster 20 0 0 0 fast 0 5; man poorly 20 0 0 0 ill a 2; law 0 a = 2; law 0 b = 2; law 1 a = 2;"
            + "belly one 4 5; belly two 6 5; belly big 10 9; belly tiny 2 1; belly free 0 0;");
        hired(0, 0, x, 0, 0);
        hired(5, 1, x, 1, 0);
        hired(5, 2, x, 2, 0);
        hired(9, 4, x, 3, 0);
        Check.due("pass(4, 1)", 0, x.pass(4, 1));
        hired(9, 4, x, 4, 0);
        hired(5, 1, x, 4, 1);
        hired(0, 0, x, 1, 1);
        int[][] none = {{-1, 0, 0}, {5, 0, 0}, {0, 2, 0}, {0, -1, 0}, {0, 0, 2}, {0, 0, -1}};
        for (int[] no : none) {
            Check.due("hire(" + no[0] + ", " + no[1] + ", " + no[2] + ")", -1, x.hire(no[0], no[1], no[2]));
        }
        EatenToll alike = Check.told("dish a 1 1 99; man m 0 0 0 0; law 0 a = 3; belly x 2 0; belly y 1 4; belly z 3 4; belly w 9 5;");
        hired(4, 3, alike, 0, 0);
        EatenToll nothing = Check.told("dish a 1 1 99; man m 0 0 0 0 fast 0 23 hates a; law 0 a = 0; belly x 2 0;");
        hired(0, 0, nothing, 0, 0);
        EatenToll free = Check.told("dish a 1 1 99; man m 3 0 0 0; law 0 a = 3; belly x 2 0;");
        hired(0, 0, free, 0, 0);
    }

    /** Bites are not cut: rooms that would do together need not do one by one. */
    private static void hireForWholeBites() {
        EatenToll x = Check.told("dish a 5 1 99; man m 4 0 0 0; law 0 a = 2; belly x 4 1; belly y 9 2; belly z 7 3; law 1 a = 3;");
        hired(5, 6, x, 0, 0);
        hired(-2, -2, x, 0, 1);
        EatenToll y = Check.told("dish a 3 1 99; dish b 4 1 99; man m 0 0 0 0; law 0 a = 3; law 0 b = 1; belly x 7 1; belly y 6 1; belly z 13 3;");
        hired(2, 3, y, 0, 0);
        EatenToll z = Check.told("dish a 3 1 99; dish b 4 1 99; man m 7 0 0 0 hates b; law 0 a = 2; law 0 b = 2;"
            + "belly x 7 1; belly y 8 2;");
        hired(2, 2, z, 0, 0);
        EatenToll w = Check.told("dish a 7 1 99; dish b 5 1 99; dish c 3 1 99; dish d 2 1 99; man m 10 0 0 0; law 0 a = 2;"
            + "law 0 b = 2; law 0 c = 2; law 0 d = 2; belly p 12 1; belly q 12 1; belly r 11 9;");
        hired(2, 3, w, 0, 0);
        EatenToll tight = Check.told("dish a 7 1 99; dish b 5 1 99; dish c 3 1 99; dish d 2 1 99; man m 11 0 0 0; law 0 a = 2;"
            + "law 0 b = 2; law 0 c = 2; law 0 d = 2; belly p 11 1; belly q 12 1; belly r 11 9;");
        hired(2, 3, tight, 0, 0);
    }

    private static void hireAndStore() {
        EatenToll x = Check.told("dish a 1 1 2; man m 9 0 0 0; law 0 a = 3; law 1 a = 2; belly x 9 1;");
        hired(-2, -2, x, 0, 0);
        hired(0, 0, x, 0, 1);
        Check.due("tongue and store", -2, x.tongue(0, 0));
    }

    /** Six bites of each dish, of 2 + 3 + 5 + 7 each time: 102 in all. */
    private static void manyBites() {
        String begin = "dish a 2 1 99; dish b 3 1 99; dish c 5 1 99; dish d 7 1 99; law 0 a = 6; law 0 b = 6; law 0 c = 6; law 0 d = 6;";
        EatenToll x = Check.told(begin + "man m 20 0 0 0; belly p 20 5; belly q 20 6; belly r 21 7; belly s 21 8; belly t 99 30;");
        hired(26, 15, x, 0, 0);
        EatenToll six = Check.told(begin + "man m 0 0 0 0; belly p 17 1; belly q 17 1; belly r 17 1; belly s 17 1; belly t 17 1; belly u 17 1;");
        hired(6, 63, six, 0, 0);
        EatenToll less = Check.told(begin + "man m 0 0 0 0; belly p 17 1; belly q 17 1; belly r 17 1; belly s 17 1; belly t 17 1; belly u 16 1;");
        hired(-2, -2, less, 0, 0);
        EatenToll uneven = Check.told(begin + "man m 6 0 0 0; belly p 6 1; belly q 6 1; belly r 6 1; belly s 6 1; belly t 6 1; belly u 99 99;");
        hired(99, 32, uneven, 0, 0);
        EatenToll odd = Check.told("dish a 9 1 99; dish b 9 1 99; dish c 9 1 99; dish d 9 1 99; law 0 a = 6; law 0 b = 6; law 0 c = 6; law 0 d = 6;"
            + "man m 44 0 0 0; belly p 44 1; belly q 44 1; belly r 44 1; belly s 44 1; belly t 53 1; belly u 44 2;");
        hired(5, 31, odd, 0, 0);
    }

    private static void withSomeAhead() {
        EatenToll x = Check.told("dish a 1 1 99; man m 2 0 0 0; man n 9 0 0 0; law 0 a = 1 + 2 * ahead; belly p 1 3;");
        hired(0, 0, x, 0, 0);
        Check.due("tongue(0, 0)", 0, x.tongue(0, 0));
        x.pass(1, 0);
        hired(3, 1, x, 0, 0);
        Check.due("tongue(0, 0)", 1, x.tongue(0, 0));
    }

    private static void wideRooms() {
        EatenToll x = Check.told("dish a 9 1 99; dish b 9 1 99; man m 99 0 0 0; man n 99 0 0 0; man o 98 0 0 0; man p 0 0 0 0;"
            + "law 0 a = 6; law 0 b = 5; law 1 a = 6; law 1 b = 5 - 5 * ahead;");
        pair(11, x, 0, 1);
        pair(-2, x, 0, 2);
        pair(-2, x, 2, 0);
        Check.due("split(0, 3, 1)", -2, x.split(0, 3, 1));
        EatenToll y = Check.told("dish a 9 1 99; man m 99 0 0 0; man n 9 0 0 0; man o 8 0 0 0; law 0 a = 6;");
        pair(11, y, 0, 1);
        pair(-2, y, 0, 2);
        pair(1, y, 1, 0);
    }

    private static void tongue() {
        EatenToll x = Check.told("dish a 2 1 99; dish b 5 1 99; man ok 99 0 0 0; man m 11 0 0 0; man hater 99 0 0 0 hates a;"
            + "man faster 99 0 0 0 fast 0 0; man poorly 99 0 0 0 ill a 1; man none 0 0 0 0; man late 12 3 0 0;"
            + "law 0 a = 3; law 0 b = 2; law 1 a = 1;");
        Check.due("pass(4, 1)", 0, x.pass(4, 1));
        int[] kept = {0, 1, 3, 5, 5, 5, 2};
        for (int man = 0; man < kept.length; man++) {
            Check.due("tongue(" + man + ", 0)", kept[man], x.tongue(man, 0));
        }
        x.later(1);
        Check.due("behind the fast", 0, x.tongue(3, 0));
        Check.due("tongue(7, 0)", -1, x.tongue(7, 0));
        Check.due("tongue(-1, 0)", -1, x.tongue(-1, 0));
        Check.due("tongue(0, 2)", -1, x.tongue(0, 2));
    }

    private static void pair(int fewest, EatenToll x, int man, int other) {
        Check.due("split(" + man + ", " + other + ", 0)", fewest, x.split(man, other, 0));
        Check.due("together(" + man + ", " + other + ", 0)", fewest == -1 ? -1 : fewest == -2 ? 0 : 1, x.together(man, other, 0));
    }

    private static void together() {
        EatenToll x = Check.told("dish a 2 1 99; dish b 3 1 99; man big 50 0 0 0; man m 10 0 0 0; man n 9 0 0 0; man hata 50 0 0 0 hates a;"
            + "man hatb 50 0 0 0 hates b; man faster 50 0 0 0 fast 0 5; man poorly 50 0 0 0 ill a 1; law 0 a = 2; law 0 b = 2; law 1 a = 1;");
        pair(4, x, 0, 1);
        pair(0, x, 1, 0);
        pair(-2, x, 1, 2);
        pair(-2, x, 2, 1);
        pair(4, x, 3, 4);
        pair(4, x, 4, 3);
        pair(-2, x, 1, 5);
        pair(8, x, 0, 5);
        pair(0, x, 5, 0);
        pair(-1, x, 0, 0);
        pair(-1, x, 0, 7);
        pair(-1, x, -1, 0);
        Check.due("pass(6, 1)", 0, x.pass(6, 1));
        pair(8, x, 0, 6);
        pair(-2, x, 5, 6);
        pair(0, x, 3, 0);
        Check.due("split(0, 1, 2)", -1, x.split(0, 1, 2));
        Check.due("together(0, 1, -1)", -1, x.together(0, 1, -1));
        Check.due("together(5, 6, 1): nobody may eat", 0, x.together(5, 6, 1));
        EatenToll both = Check.told("dish a 1 1 99; man m 9 0 0 0 hates a; man n 9 0 0 0 hates a; law 0 a = 1;");
        pair(-2, both, 0, 1);
        EatenToll none = Check.told("dish a 1 1 99; man m 0 0 0 0 hates a fast 0 23; man n 0 0 0 0 hates a; law 0 a = 0;");
        pair(0, none, 0, 1);
        EatenToll whole = Check.told("dish a 5 1 99; man m 9 0 0 0; man n 11 0 0 0; law 0 a = 2;");
        pair(-2, whole, 0, 1);
        EatenToll odd = Check.told("dish a 3 1 99; dish b 5 1 99; man m 11 0 0 0; man n 5 0 0 0; law 0 a = 1; law 0 b = 1;");
        pair(3, odd, 0, 1);
        EatenToll store = Check.told("dish a 1 1 3; man m 9 0 0 0; man n 9 0 0 0; law 0 a = 2;");
        pair(-2, store, 0, 1);
    }

    /** The second has one more ahead of him; what is left in store is the same for both. */
    private static void togetherAhead() {
        EatenToll x = Check.told("dish a 1 1 6; man m 9 0 0 0; man n 2 0 0 0; man o 2 0 0 0; law 0 a = 1 + ahead; law 1 a = left / 2;");
        pair(1, x, 0, 1);
        pair(1, x, 1, 2);
        Check.due("pass(2, 0)", 0, x.pass(2, 0));
        Check.due("dish(0, 0)", 5, x.dish(0, 0));
        pair(3, x, 0, 1);
        Check.due("split(0, 1, 1)", 2, x.split(0, 1, 1));
    }

    private static void odds() {
        Check.due("odds(18, 0, 10)", 1000000000000000000L, new EatenToll().odds(18, 0, 10));
        long[][] odds = {{0, 0, 1, 1}, {0, 1, 1, 1}, {1, 1, 1, 0}, {3, 1, 2, 1}, {3, 1, 3, 8}, {2, 3, 10, 49},
            {18, 1, 10, 150094635296999121L}, {18, 0, 1, 1}, {-1, 1, 2, -1}, {19, 1, 2, -1}, {1, -1, 2, -1}, {1, 3, 2, -1},
            {1, 0, 0, -1}, {1, 0, 11, -1}, {5, 10, 10, 0}, {0, 10, 10, 1}};
        for (long[] o : odds) {
            Check.due("odds(" + o[0] + ", " + o[1] + ", " + o[2] + ")", o[3],
                new EatenToll().odds((int) o[0], (int) o[1], (int) o[2]));
        }
    }
}
