/** Promises 19 to 23: soonest, least, crowd, hourOf, best. */
public final class PlansTest {
    public static void main(String[] args) {
        sets();
        orders();
        severalInAnHour();
        fromNowOn();
        storesDoNotCount();
        leastAndMost();
        crowds();
        hourOf();
        hourOfAndStore();
        best();
        bestForMany();
        bestOfAlike();
        Check.end();
    }

    private static void sets() {
        EatenToll x = Check.told("dish a 1 1 9; man m 9 0 0 0; man n 9 0 0 0; law 0 a = 1;");
        x.later(4);
        Check.due("soonest(0, 0)", 4, x.soonest(0, 0));
        Check.due("least(0, 0, false)", 0, x.least(0, 0, false));
        Check.due("least(0, 1, true)", 0, x.least(0, 1, true));
        Check.due("crowd(0, 0, 0)", 0, x.crowd(0, 0, 0));
        Check.due("crowd(0, 0, 1)", 0, x.crowd(0, 0, 1));
        Check.due("best(0, 0)", 0, x.best(0, 0));
        Check.due("best(0, -1)", 0, x.best(0, -1));
        for (int set : new int[] {-1, 4, 255, 256, Integer.MIN_VALUE, Integer.MAX_VALUE}) {
            Check.due("soonest(" + set + ", 0)", -1, x.soonest(set, 0));
            Check.due("least(" + set + ", 0, true)", -1, x.least(set, 0, true));
            Check.due("crowd(" + set + ", 0, 0)", -1, x.crowd(set, 0, 0));
            Check.due("best(" + set + ", 0)", -1, x.best(set, 0));
        }
        for (int gate : new int[] {-1, 2}) {
            Check.due("soonest(1, " + gate + ")", -1, x.soonest(1, gate));
            Check.due("least(1, " + gate + ", false)", -1, x.least(1, gate, false));
            Check.due("crowd(1, " + gate + ", 0)", -1, x.crowd(1, gate, 0));
            Check.due("hourOf(0, " + gate + ", false)", -1, x.hourOf(0, gate, false));
        }
        Check.due("crowd(1, 0, 2)", -1, x.crowd(1, 0, 2));
        Check.due("crowd(1, 0, -1)", -1, x.crowd(1, 0, -1));
        Check.due("best(1, 1)", -1, x.best(1, 1));
        Check.due("best(1, -2)", -1, x.best(1, -2));
        Check.due("hourOf(2, 0, false)", -1, x.hourOf(2, 0, false));
        Check.due("hourOf(-1, 0, true)", -1, x.hourOf(-1, 0, true));
    }

    /** Who goes ahead matters: the small one can only go first, or when nobody is before him. */
    private static void orders() {
        EatenToll x = Check.told("dish a 1 2 9; man big 30 0 0 0; man mid 2 0 0 0; man low 1 0 0 0; man none 0 0 0 0;"
            + "law 0 a = 1 + ahead; law 1 a = 3 - ahead;");
        Check.due("all but none", 0, x.soonest(7, 0));
        Check.due("their bulk", 6, x.least(7, 0, false));
        Check.due("their gain", 12, x.least(7, 0, true));
        Check.due("with none", -2, x.soonest(15, 0));
        Check.due("with none", -2, x.least(15, 0, false));
        Check.due("with none", -2, x.least(15, 0, true));
        Check.due("how many", 3, x.crowd(15, 0, 0));
        Check.due("who", 7, x.crowd(15, 0, 1));
        Check.due("by the other gate", 0, x.soonest(15, 1));
        Check.due("their bulk", 6, x.least(15, 1, false));
        Check.due("who", 15, x.crowd(15, 1, 1));
        Check.due("pass(0, 0)", 0, x.pass(0, 0));
        Check.due("with one ahead", -2, x.soonest(6, 0));
        Check.due("with one ahead", 0, x.soonest(2, 0));
        Check.due("who passed may pass again", 0, x.soonest(3, 0));
        Check.due("who", 3, x.crowd(15, 0, 1));
    }

    private static void severalInAnHour() {
        EatenToll x = Check.told("dish a 4 1 9; man m 9 9 1 0; man n 9 8 2 0; man faster 9 0 0 0 fast 0 6; man poorly 9 0 9 0 ill a 1;"
            + "law 0 a = 1; law 1 a = if hour < 3 then 1 else 2;");
        Check.due("soonest(1, 0)", 4, x.soonest(1, 0));
        Check.due("soonest(2, 0)", 2, x.soonest(2, 0));
        Check.due("soonest(3, 0)", 4, x.soonest(3, 0));
        Check.due("soonest(7, 0)", 7, x.soonest(7, 0));
        Check.due("soonest(8, 0)", 0, x.soonest(8, 0));
        Check.due("soonest(3, 1)", 8, x.soonest(3, 1));
        Check.due("pass(3, 0)", 0, x.pass(3, 0));
        Check.due("when he is well", 12, x.soonest(8, 0));
        Check.due("when all are", 12, x.soonest(15, 0));
        Check.due("nothing happened", 0, x.count(5));
        Check.due("nothing happened", 1, x.count(11));
    }

    private static void fromNowOn() {
        EatenToll x = Check.told("dish a 1 1 9; man m 9 9 0 0; man n 9 0 0 0 fast 3 20; law 0 a = if hour < 5 then 1 else if hour < 22 then 2 else 0;"
            + "law 1 a = if hour < 5 then 0 else 1;");
        Check.due("soonest(2, 0)", 0, x.soonest(2, 0));
        Check.due("soonest(1, 0)", 22, x.soonest(1, 0));
        Check.due("soonest(1, 1)", 0, x.soonest(1, 1));
        x.later(5);
        Check.due("soonest(2, 0)", 21, x.soonest(2, 0));
        Check.due("soonest(1, 1)", -2, x.soonest(1, 1));
        Check.due("least(1, 1, true)", -2, x.least(1, 1, true));
        Check.due("crowd(3, 1, 1)", 2, x.crowd(3, 1, 1));
        Check.due("least(2, 0, false)", 0, x.least(2, 0, false));
        Check.due("least(2, 0, true)", 2, x.least(2, 0, true));
        x.later(18);
        Check.due("in the last hour", 23, x.soonest(3, 0));
    }

    private static void storesDoNotCount() {
        EatenToll x = Check.told("dish a 1 5 1; man m 9 0 0 0; man n 9 0 0 0; law 0 a = 2; law 1 a = 1 + left;");
        Check.due("may(0, 0)", 4, x.may(0, 0));
        Check.due("soonest(3, 0)", 0, x.soonest(3, 0));
        Check.due("least(3, 0, true)", 20, x.least(3, 0, true));
        Check.due("what is left stays", 4, x.least(3, 1, false));
        Check.due("crowd(3, 0, 0)", 2, x.crowd(3, 0, 0));
    }

    private static void leastAndMost() {
        EatenToll x = Check.told("dish a 1 0 99; dish b 3 4 99; man m 20 0 0 0; man n 20 0 0 0;"
            + "law 0 a = if hour < 2 then 5 else hour / 3; law 0 b = ahead;"
            + "law 1 a = 6 - ahead - sick; law 1 b = if hour < 10 then ahead else 3 - ahead;");
        Check.due("least(1, 0, false)", 0, x.least(1, 0, false));
        Check.due("least(3, 0, false)", 3, x.least(3, 0, false));
        Check.due("least(1, 0, true)", 0, x.least(1, 0, true));
        Check.due("least(3, 0, true)", 4, x.least(3, 0, true));
        Check.due("least(3, 1, false)", 6 + 5 + 3, x.least(3, 1, false));
        Check.due("least(3, 1, true)", 12 + 8, x.least(3, 1, true));
        EatenToll y = Check.told("dish a 1 1 99; man m 9 9 1 0; man n 9 0 0 0; law 0 a = if ahead < 1 then 4 else if room < 6 then 1 else 5;");
        Check.due("the first at 4, the other behind him", 5 + 4, y.least(3, 0, true));
        Check.due("the other first", 5, y.least(3, 0, false));
    }

    private static void crowds() {
        EatenToll x = Check.told("dish a 1 1 99; man p 2 0 0 0; man q 1 0 0 0; man r 1 0 0 0; man s 2 0 0 0; man t 0 0 0 0; man u 2 0 0 0 hates a;"
            + "law 0 a = 1 + ahead; law 1 a = if hour < 1 then 1 + ahead else 9;");
        Check.due("crowd(63, 0, 0)", 2, x.crowd(63, 0, 0));
        Check.due("crowd(63, 0, 1)", 3, x.crowd(63, 0, 1));
        Check.due("crowd(62, 0, 1)", 10, x.crowd(62, 0, 1));
        Check.due("crowd(6, 0, 1)", 2, x.crowd(6, 0, 1));
        Check.due("crowd(4, 0, 1)", 4, x.crowd(4, 0, 1));
        Check.due("crowd(48, 0, 0)", 0, x.crowd(48, 0, 0));
        Check.due("crowd(48, 0, 1)", 0, x.crowd(48, 0, 1));
        Check.due("crowd(12, 1, 1)", 12, x.crowd(12, 1, 1));
        x.later(1);
        Check.due("crowd(12, 1, 1)", 0, x.crowd(12, 1, 1));
        EatenToll all = Check.told("man a 1 0 0 0; man b 1 0 0 0; man c 1 0 0 0; man d 1 0 0 0; man e 1 0 0 0; man f 1 0 0 0;"
            + "man g 1 0 0 0; man h 1 0 0 0;");
        Check.due("crowd(255, 0, 0)", 8, all.crowd(255, 0, 0));
        Check.due("crowd(255, 0, 1)", 255, all.crowd(255, 0, 1));
        Check.due("soonest(255, 1)", 0, all.soonest(255, 1));
    }

    private static void hourOf() {
        EatenToll x = Check.told("dish a 1 1 99; dish b 2 9 99; man m 9 0 0 0; man n 9 9 1 0; man faster 9 0 0 0 fast 2 5;"
            + "law 0 a = if hour < 2 then 3 else if hour < 9 then 1 else if hour < 23 then 2 else 1; law 0 b = if hour < 7 then 0 else 1;");
        Check.due("hourOf(0, 0, false)", 2, x.hourOf(0, 0, false));
        Check.due("hourOf(0, 0, true)", 9, x.hourOf(0, 0, true));
        Check.due("hourOf(1, 0, false)", 2, x.hourOf(1, 0, false));
        Check.due("hourOf(2, 0, false)", 6, x.hourOf(2, 0, false));
        Check.due("hourOf(0, 1, false)", 0, x.hourOf(0, 1, false));
        x.later(7);
        Check.due("hourOf(0, 0, false)", 7, x.hourOf(0, 0, false));
        x.later(3);
        Check.due("hourOf(0, 0, false)", 23, x.hourOf(0, 0, false));
        Check.due("hourOf(0, 0, true)", 10, x.hourOf(0, 0, true));
        Check.due("hourOf(0, 1, true)", 10, x.hourOf(0, 1, true));
        EatenToll y = Check.told("dish a 1 1 99; man m 5 5 0 0; law 0 a = 1;");
        Check.due("none", -2, y.hourOf(0, 0, false));
    }

    private static void hourOfAndStore() {
        EatenToll x = Check.told("dish a 1 1 2; man m 9 0 0 0; law 0 a = if hour < 5 then 3 else if hour < 8 then 2 else 1;"
            + "law 1 a = 3;");
        Check.due("hourOf(0, 0, true)", 5, x.hourOf(0, 0, true));
        Check.due("hourOf(0, 0, false)", 8, x.hourOf(0, 0, false));
        Check.due("hourOf(0, 1, false)", -2, x.hourOf(0, 1, false));
    }

    private static void bestLaw(EatenToll x, int set, int gain, int... bites) {
        Check.due("best(" + set + ", -1)", gain, x.best(set, -1));
        for (int dish = 0; dish < bites.length; dish++) {
            Check.due("best(" + set + ", " + dish + ")", bites[dish], x.best(set, dish));
        }
    }

    private static void best() {
        EatenToll x = Check.told("dish a 2 3 99; dish b 3 5 99; man m 13 0 0 0; man hater 13 0 0 0 hates b; man faster 13 0 0 0 fast 0 0;"
            + "man poorly 13 0 9 0 ill a 1; law 0 a = 1;");
        bestLaw(x, 1, 21, 2, 3);
        bestLaw(x, 2, 18, 6, 0);
        bestLaw(x, 3, 36, 6, 0);
        bestLaw(x, 4, 0, 0, 0);
        bestLaw(x, 8, 21, 2, 3);
        x.pass(3, 0);
        bestLaw(x, 8, 0, 0, 0);
        bestLaw(x, 15, 36, 6, 0);
        x.later(1);
        bestLaw(x, 4, 21, 2, 3);
        bestLaw(x, 12, 21, 2, 3);
    }

    private static void bestForMany() {
        EatenToll x = Check.told("dish a 1 2 7; man p 9 0 0 0; man q 9 0 0 0; man r 3 0 0 0; man s 2 0 0 0;");
        bestLaw(x, 1, 12, 6);
        bestLaw(x, 3, 12, 3);
        bestLaw(x, 7, 12, 2);
        bestLaw(x, 15, 12, 2);
        bestLaw(x, 12, 8, 2);
        EatenToll y = Check.told("dish a 1 2 11; man p 9 0 0 0; man q 9 0 0 0; man r 5 0 0 0; man s 2 0 0 0;");
        bestLaw(y, 7, 20, 5);
        EatenToll none = Check.told("dish a 1 2 0; man p 9 0 0 0;");
        bestLaw(none, 1, 0, 0);
        EatenToll four = Check.told("dish a 1 1 99; dish b 1 2 99; dish c 1 3 99; dish d 1 4 99; man p 99 0 0 0; man q 8 0 0 0; man r 13 0 0 0;");
        bestLaw(four, 1, 60, 6, 6, 6, 6);
        bestLaw(four, 2, 30, 0, 0, 2, 6);
        bestLaw(four, 7, 3 * 30, 0, 0, 2, 6);
        bestLaw(four, 5, 2 * 44, 0, 1, 6, 6);
    }

    private static void bestOfAlike() {
        EatenToll x = Check.told("dish a 1 2 99; dish b 1 2 99; dish c 1 0 99; man p 5 0 0 0;");
        bestLaw(x, 1, 10, 0, 5, 0);
        EatenToll y = Check.told("dish a 2 4 99; dish b 3 6 99; man p 12 0 0 0;");
        bestLaw(y, 1, 24, 0, 4);
    }
}
