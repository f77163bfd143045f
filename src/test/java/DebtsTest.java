/** Promises 25 and 26: net, cleared. */
public final class DebtsTest {
    private static final String MEN = "man a 9 0 0 0; man b 9 0 0 0; man c 9 0 0 0; man d 9 0 0 0; man e 9 0 0 0; man f 9 0 0 0;"
        + "man g 9 0 0 0; man h 9 0 0 0;";

    public static void main(String[] args) {
        nets();
        cleared(0, "");
        cleared(1, "owe a b 5;");
        cleared(1, "owe a b 5; owe b a 3;");
        cleared(0, "owe a b 5; owe b a 5;");
        cleared(0, "owe a b 5; owe b c 5; owe c a 5;");
        cleared(1, "owe a b 5; owe b c 5;");
        cleared(2, "owe a b 5; owe a c 5;");
        cleared(2, "owe a b 5; owe c d 5;");
        cleared(3, "owe a b 5; owe a c 6; owe a d 7;");
        // Nets -3 -5 8, -2 -7 9, 4 -4: three groups of three, three and two.
        cleared(5, "owe a c 3; owe b c 5; owe d f 2; owe e f 7; owe h g 4;");
        // The same nets, but crosswise.
        cleared(5, "owe a f 3; owe b f 5; owe d c 2; owe e c 6; owe e f 1; owe h g 4;");
        // No part of these comes to 0: one hand less than there are men.
        cleared(7, "owe a h 1; owe b h 2; owe c h 4; owe d h 8; owe e h 16; owe f h 32; owe g h 64;");
        cleared(4, "owe a b 9; owe c d 9; owe e f 9; owe g h 9;");
        cleared(4, "owe a b 9; owe b c 9; owe c d 9; owe e d 9; owe e f 9; owe g h 9; owe a g 9; owe d e 1; owe h e 1;");
        Check.end();
    }

    private static void nets() {
        EatenToll x = Check.told("man a 9 0 0 0; man b 9 0 0 0; man c 9 0 0 0; owe a b 5; owe a b 99; owe b c 3; owe c a 1;");
        Check.due("net(0)", -103, x.net(0));
        Check.due("net(1)", 101, x.net(1));
        Check.due("net(2)", 2, x.net(2));
        Check.due("net(3)", -1000000, x.net(3));
        Check.due("net(-1)", -1000000, x.net(-1));
        Check.due("net(min)", -1000000, x.net(Integer.MIN_VALUE));
        Check.due("count(4)", 4, x.count(4));
        Check.due("net(0) of nobody", -1000000, new EatenToll().net(0));
    }

    private static void cleared(int hands, String debts) {
        EatenToll x = Check.told(MEN + debts);
        Check.due("cleared() of " + debts, hands, x.cleared());
    }
}
