/** The edges of a day on which each goes by himself, and of debts, as ==== III of the Terms tells them. */
public final class DayEdgesTest {
    private static final String EIGHT = "man a 9 0 0 0; man b 9 0 0 0; man c 9 0 0 0; man d 9 0 0 0; man e 9 0 0 0; man f 9 0 0 0;"
        + "man g 9 0 0 0; man h 9 0 0 0;";

    public static void main(String[] args) {
        tillTwentyThree();
        aTrial();
        inTheirOrder();
        lessBulk();
        ofThoseWhereHeMay();
        toNone();
        whatWouldBe();
        whoWasAhead();
        allThatMayBe();
        nets();
        noHands();
        oneHandLessThanMen();
        groups();
        Check.end();
    }

    private static void days(String what, EatenToll x, int first, int other, int men, int away) {
        int[] due = {first, other, men, away};
        for (int i = 0; i < 4; i++) {
            Check.due(what + ": day(" + i + ")", due[i], x.day(i));
        }
    }

    private static void tillTwentyThree() {
        Check.says("A DAY from now on, till hour 23 is over (a trial): at each hour, GOINGS of that hour");
        EatenToll x = Check.told("dish a 1 1 99; man p 9 0 0 0; man q 9 0 0 0; man r 9 0 0 0; man s 9 0 0 0; law 0 a = 1; law 1 a = 2;"
            + "goes p 0; goes q 1; goes r 22; goes s 23;");
        int[][] due = {{0, 4, 15}, {1, 3, 14}, {2, 2, 12}, {21, 2, 12}, {22, 2, 12}, {23, 1, 8}};
        for (int[] d : due) {
            x.later(d[0] - x.count(5));
            days("now " + d[0], x, d[1], 0, d[2], 0);
        }
        x.later(1);
        days("hour 0 of the next day", x, 4, 0, 15, 0);
        EatenToll none = Check.told("dish a 1 1 99; man p 9 0 0 0; law 0 a = 1;");
        days("no GOINGS", none, 0, 0, 0, 0);
    }

    private static void aTrial() {
        EatenToll x = Check.told("dish a 1 2 30; man m 9 3 1 0 ill a 1; man n 9 3 1 0; law 0 a = 1; law 1 a = 2; goes m 0; goes n 3; goes m 5;");
        x.pass(1, 1);
        long[] before = Look.at(x);
        days("a trial", x, 4, 0, 3, 1);
        Look.same("a trial changes nothing", before, Look.at(x));
    }

    private static void inTheirOrder() {
        Check.says("GOINGS of that hour in their order:");
        String begin = "dish a 1 1 99; man p 1 0 0 0; man q 2 0 0 0; law 0 a = 1 + ahead; law 1 a = 6;";
        days("the small one first", Check.told(begin + "goes p 5; goes q 5;"), 3, 0, 3, 0);
        days("the small one last", Check.told(begin + "goes q 5; goes p 5;"), 1, 0, 2, 1);
        days("told last, but an hour ahead", Check.told(begin + "goes q 6; goes p 5;"), 3, 0, 3, 0);
        days("told first, but an hour behind", Check.told(begin + "goes p 7; goes q 6;"), 1, 0, 2, 1);
    }

    private static void lessBulk() {
        Check.says("the MAN goes to the GATE where his BULK is less (0 if alike)");
        for (int bites = 0; bites <= 5; bites++) {
            EatenToll x = Check.told("dish a 1 2 9; dish b 3 5 9; man m 20 0 0 0; law 0 a = " + bites + "; law 1 b = 1; goes m 4;");
            days("BULK " + bites + " and 3", x, bites <= 3 ? 2 * bites : 0, bites <= 3 ? 0 : 5, 1, 0);
        }
        EatenToll none = Check.told("dish a 1 2 9; man m 20 0 0 0; goes m 4; law 1 a = 1;");
        days("no bite at gate 0", none, 0, 0, 1, 0);
        EatenToll other = Check.told("dish a 1 2 9; man m 20 0 0 0; goes m 4; law 0 a = 1;");
        days("no bite at gate 1", other, 0, 0, 1, 0);
    }

    private static void ofThoseWhereHeMay() {
        Check.says("of those where he MAY PASS;");
        String[] men = {"man m 6 0 0 0", "man m 6 0 0 0 hates a", "man m 5 0 0 0 hates a", "man m 5 0 0 0", "man m 2 0 0 0", "man m 1 0 0 0",
            "man m 6 0 0 0 hates b", "man m 6 0 0 0 hates a hates b"};
        int[][] due = {{4, 0, 1, 0}, {0, 10, 1, 0}, {0, 0, 0, 1}, {4, 0, 1, 0}, {4, 0, 1, 0}, {0, 0, 0, 1}, {4, 0, 1, 0}, {0, 0, 0, 1}};
        for (int i = 0; i < men.length; i++) {
            EatenToll x = Check.told("dish a 1 2 9; dish b 3 5 2; " + men[i] + "; law 0 a = 2; law 1 b = 2; goes m 4;");
            days(men[i], x, due[i][0], due[i][1], due[i][2], due[i][3]);
        }
        for (int store = 1; store <= 3; store++) {
            EatenToll x = Check.told("dish a 1 2 " + store + "; dish b 3 5 2; man m 9 0 0 0; law 0 a = 2; law 1 b = 2; goes m 4;");
            days("2 bites at gate 0, STORE " + store, x, store < 2 ? 0 : 4, store < 2 ? 10 : 0, 1, 0);
        }
    }

    private static void toNone() {
        Check.says("to none if he may by none.");
        EatenToll x = Check.told("dish a 1 1 99; man p 9 0 0 0 fast 3 4; man q 3 3 1 0; man r 9 0 0 0 ill a 3; law 0 a = 3; law 1 a = 4;"
            + "goes p 2; goes p 3; goes p 4; goes p 5; goes q 2; goes q 3; goes r 0; goes r 11; goes r 12;");
        // p goes away at 3, 4; q at 2; r at 11.
        days("fasts, no room, SICK", x, 3 + 3 + 3 + 3 + 3, 0, 7, 4);
    }

    private static void whatWouldBe() {
        Check.says("What would be: GAIN of each GATE, who has passed, how many went away.");
        EatenToll x = Check.told("dish a 1 3 4; man p 9 0 0 0; man q 9 0 0 0; man r 0 0 0 0; law 0 a = 1 + ahead; law 1 a = 2; goes p 1; goes q 2; goes p 3; goes r 4; goes r 5;");
        // 1 bite at gate 0, then 2 at gate 0 (alike), then 3 or 2 with one left: he goes away.
        days("stores lessen in it", x, 9, 0, 3, 3);
        x.pass(2, 1);
        Check.due("r has no room for 2", 0, x.man(2, 5));
        x.later(2);
        days("from hour 2 on", x, 3 + 6, 0, 3, 2);
        x.later(22);
        days("the next day", x, 9, 0, 3, 3);
    }

    /** Who has passed this day by a gate is ahead in the trial too; what the gates had gained is not of it. */
    private static void whoWasAhead() {
        EatenToll x = Check.told("dish a 1 3 99; man p 9 0 9 0; man q 2 0 0 0; law 0 a = 1 + ahead; law 1 a = 2 + ahead; goes q 1;");
        days("none ahead", x, 3, 0, 2, 0);
        x.pass(0, 0);
        days("one ahead by gate 0: 2 and 2 bites", x, 6, 0, 2, 0);
        x.pass(0, 0);
        days("two ahead by gate 0: 3 and 2 bites", x, 0, 6, 2, 0);
        x.pass(0, 1);
        days("one ahead by gate 1 too: 3 and 3 bites", x, 0, 0, 0, 1);
        Check.due("gained(0)", 9, x.gained(0));
        x.later(24);
        days("none ahead the next day", x, 3, 0, 2, 0);
    }

    private static void allThatMayBe() {
        EatenToll x = Check.told("dish a 1 99 999; man p 99 0 9 0; law 0 a = 6; law 1 a = 6;" + "goes p 0;".repeat(10) + "goes p 23;".repeat(10));
        days("20 GOINGS of one man", x, 20 * 6 * 99, 0, 1, 0);
        EatenToll away = Check.told("dish a 1 99 0; man p 99 0 9 0; law 0 a = 6; law 1 a = 6;" + "goes p 0;".repeat(10) + "goes p 23;".repeat(10));
        days("20 GOINGS, none passes", away, 0, 0, 0, 20);
    }

    private static void nets() {
        Check.says("NET of a MAN: what all DEBTS owe him less what he owes.");
        EatenToll x = Check.told("man p 9 0 0 0; man q 9 0 0 0; man r 9 0 0 0; man s 9 0 0 0;" + "owe p q 99;".repeat(17) + "owe q r 1; owe r q 2; owe r p 1;");
        int[] due = {-17 * 99 + 1, 17 * 99 - 1 + 2, 1 - 2 - 1, 0};
        for (int man = 0; man < 4; man++) {
            Check.due("net(" + man + ")", due[man], x.net(man));
        }
        EatenToll most = Check.told("man p 9 0 0 0; man q 9 0 0 0;" + "owe q p 99;".repeat(20));
        Check.due("20 times 99", 1980, most.net(0));
        Check.due("20 times 99", -1980, most.net(1));
    }

    private static void cleared(int hands, String debts) {
        EatenToll x = Check.told(EIGHT + debts);
        Check.due(debts + " cleared()", hands, x.cleared());
    }

    private static void noHands() {
        Check.says("CLEARED by the fewest hands: from one to another one, each hand so many bites as one likes:"
            + " how many hands at least till all NETS are 0.");
        Check.due("no MEN: cleared()", 0, new EatenToll().cleared());
        cleared(0, "");
        cleared(1, "owe a b 1;");
        cleared(0, "owe a b 1; owe b a 1;");
        cleared(1, "owe a b 2; owe b a 1;");
        cleared(1, "owe a b 1; owe b a 2;");
        cleared(0, "owe a b 7; owe b c 7; owe c d 7; owe d e 7; owe e f 7; owe f g 7; owe g h 7; owe h a 7;");
        cleared(1, "owe a b 7; owe b c 7; owe c d 7; owe d e 7; owe e f 7; owe f g 7; owe g h 7;");
    }

    private static void oneHandLessThanMen() {
        cleared(2, "owe a b 1; owe a c 2;");
        cleared(2, "owe a b 1; owe b c 2;");
        cleared(7, "owe a b 1; owe a c 2; owe a d 4; owe a e 8; owe a f 16; owe a g 32; owe a h 64;");
        cleared(6, "owe a b 1; owe a c 2; owe a d 4; owe a e 8; owe a f 16; owe a g 32;");
        cleared(7, "owe b a 1; owe c a 2; owe d a 4; owe e a 8; owe f a 16; owe g a 32; owe h a 64;");
    }

    /** Each group whose nets are 0 together spares a hand. */
    private static void groups() {
        cleared(4, "owe a b 1; owe c d 1; owe e f 1; owe g h 1;");
        cleared(4, "owe a h 1; owe c d 2; owe e f 3; owe g b 4;");
        // Nets -2 -3 5 and -4 -6 10, then a step away from it: one group only.
        cleared(4, "owe a c 2; owe b c 3; owe d f 4; owe e f 6;");
        cleared(5, "owe a c 2; owe b c 3; owe d f 4; owe e f 6; owe a f 1;");
        // Nets 5 5 -2 -2 -3 -3: two groups of three, told crosswise.
        cleared(4, "owe c a 2; owe d a 2; owe e a 1; owe e b 2; owe f b 3;");
        // Nets 5 5 -4 -2 -3 -1: 5 with -4 -1, 5 with -2 -3.
        cleared(4, "owe c a 4; owe d a 1; owe d b 1; owe e b 3; owe f b 1;");
        // Nets 5 6 -4 -2 -3 -2: 5 with -3 -2, 6 with -4 -2.
        cleared(4, "owe c a 4; owe d a 1; owe d b 1; owe e b 3; owe f b 2;");
        // Nets 1 7 -2 -3 -3 : no part is 0.
        cleared(4, "owe c a 1; owe c b 1; owe d b 3; owe e b 3;");
        // Nets 9 -9, 8 -8, 1 2 -3 and one at 0.
        cleared(4, "owe a b 9; owe c d 8; owe e f 1; owe e g 2;");
    }
}
