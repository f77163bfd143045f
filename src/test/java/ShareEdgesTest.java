/** The edges of hire, tongue, odds, together and split, as ==== II of the Terms tells them. */
public final class ShareEdgesTest {
    public static void main(String[] args) {
        hisRoom();
        hatesAndFasts();
        sickOnes();
        bellyRooms();
        wholeBites();
        leastFee();
        leastBits();
        hireStores();
        tongueRoom();
        tongueHates();
        tongueStores();
        odds();
        togetherRooms();
        togetherTraits();
        oneMoreAhead();
        togetherStores();
        fewest();
        fewestOfHated();
        manyBites();
        Check.end();
    }

    private static void hired(String what, int fee, int bits, EatenToll x, int man, int gate) {
        Check.due(what + ": fee", fee, x.hire(man, gate, 0));
        Check.due(what + ": bellies", bits, x.hire(man, gate, 1));
    }

    private static void hisRoom() {
        Check.says("HIRE: BELLIES swallow what he can't or won't: so many bites of his TOLL, whatever DISHES; he the rest,");
        for (int room = 0; room <= 7; room++) {
            EatenToll x = Check.told("dish a 2 0 9; man m " + (room + 4) + " 4 0 0; law 0 a = 3; belly p 2 1; belly q 4 2; belly r 6 4;");
            int[] bits = {3, 3, 2, 2, 1, 1, 0, 0};
            hired("BULK 6, room " + room, bits[room], bits[room], x, 0, 0);
        }
        EatenToll none = Check.told("dish a 2 0 9; man m 0 0 0 0; law 0 a = 0; belly p 2 1;");
        hired("no bite", 0, 0, none, 0, 0);
        hired("no law", 0, 0, none, 0, 1);
    }

    private static void hatesAndFasts() {
        Check.says("none that he HATES, no FAST, as his room has it (if he is SICK, or in a FAST: none);");
        EatenToll x = Check.told("dish a 1 0 9; dish b 1 0 9; man p 9 0 0 0; man q 9 0 0 0 hates a; man r 9 0 0 0 hates b; man s 9 0 0 0 hates a hates b;"
            + "law 0 a = 1; law 0 b = 2; law 1 a = 1; belly x 1 1; belly y 2 2; belly z 3 4;");
        int[] bits = {0, 1, 2, 3};
        for (int man = 0; man < 4; man++) {
            hired("a bite of a and two of b, " + man, bits[man], bits[man], x, man, 0);
            hired("a bite of a, " + man, bits[man] & 1, bits[man] & 1, x, man, 1);
        }
        EatenToll y = Check.told("dish a 1 0 9; man m 9 0 0 0 fast 2 3; law 0 a = 2; belly p 2 5;");
        int[] fees = {0, 0, 5, 5, 0};
        for (int hour = 0; hour < 5; hour++) {
            hired("fast 2 3, hour " + hour, fees[hour], fees[hour] / 5, y, 0, 0);
            hired("no bite, hour " + hour, 0, 0, y, 0, 1);
            y.later(1);
        }
    }

    private static void sickOnes() {
        EatenToll x = Check.told("dish a 1 0 9; man m 9 0 0 0 ill a 2; law 0 a = 2; belly p 2 5;");
        hired("not SICK", 0, 0, x, 0, 0);
        x.pass(0, 0);
        hired("SICK for 12 hours", 5, 1, x, 0, 0);
        x.later(11);
        hired("SICK for an hour", 5, 1, x, 0, 0);
        hired("SICK, no bite", 0, 0, x, 0, 1);
        x.later(1);
        hired("not SICK", 0, 0, x, 0, 0);
    }

    private static void bellyRooms() {
        Check.says("each BELLY up to its ROOM.");
        for (int room = 5; room <= 7; room++) {
            EatenToll x = Check.told("dish a 3 0 9; man m 2 0 0 0; law 0 a = 2; belly p " + room + " 7;");
            hired("BULK 6, ROOM " + room, room < 6 ? -2 : 7, room < 6 ? -2 : 1, x, 0, 0);
            EatenToll y = Check.told("dish a 9 0 99; dish b 9 0 99; man m 99 0 0 0 hates a; law 0 a = 6; law 0 b = 6; law 1 a = 6;"
                + "belly p " + (room + 12) + " 1; belly q 18 2; belly r 18 4;");
            hired("BULK 54, the first ROOM " + (room + 12), room < 6 ? -2 : 7, room < 6 ? -2 : 7, y, 0, 1);
        }
        EatenToll full = Check.told("dish a 9 0 99; dish b 9 0 99; man m 0 0 0 0; law 0 a = 6; law 0 b = 5; belly p 99 3; law 1 a = 6; law 1 b = 6;");
        hired("BULK 99, ROOM 99", 3, 1, full, 0, 0);
        hired("BULK 108, ROOM 99", -2, -2, full, 0, 1);
        EatenToll nobody = Check.told("dish a 1 0 9; man m 1 0 0 0; law 0 a = 1; law 1 a = 2;");
        hired("no BELLIES, room enough", 0, 0, nobody, 0, 0);
        hired("no BELLIES, a bite too many", -2, -2, nobody, 0, 1);
        EatenToll zero = Check.told("dish a 1 0 9; man m 0 0 0 0; law 0 a = 1; belly p 0 0; belly q 1 99;");
        hired("ROOM 0 holds nothing", 99, 2, zero, 0, 0);
    }

    /** Bites are not cut: what all rooms have together need not do. */
    private static void wholeBites() {
        EatenToll x = Check.told("dish a 5 0 9; man m 4 0 0 0; law 0 a = 2; law 1 a = 1; belly p 4 1; belly q 5 2; belly r 9 4; belly s 10 9;");
        hired("two bites of 5", 6, 6, x, 0, 0);
        hired("one bite of 5", 2, 2, x, 0, 1);
        EatenToll y = Check.told("dish a 4 0 9; dish b 3 0 9; man m 7 0 0 0; law 0 a = 1; law 0 b = 3; belly p 6 1; belly q 5 0;");
        hired("7 and 6 hold 4 3, 3 3", 1, 1, y, 0, 0);
        EatenToll z = Check.told("dish a 4 0 9; dish b 3 0 9; man m 7 0 0 0; law 0 a = 2; law 0 b = 1; belly p 4 1; belly q 5 1;");
        hired("7 and 4 hold 4 3, 4", 1, 1, z, 0, 0);
    }

    private static void leastFee() {
        Check.says("FEE: the least sum of FEES;");
        for (int fee = 6; fee <= 8; fee++) {
            EatenToll x = Check.told("dish a 1 0 9; man m 0 0 0 0; law 0 a = 4; belly p 4 " + fee + "; belly q 2 3; belly r 2 4;");
            hired("one at " + fee + ", two at 7", Math.min(fee, 7), fee <= 7 ? 1 : 6, x, 0, 0);
        }
        EatenToll dear = Check.told("dish a 9 0 9; man m 0 0 0 0; law 0 a = 6; belly p 9 99; belly q 9 99; belly r 9 99; belly s 9 99; belly t 9 99; belly u 9 99;");
        hired("all six at 99", 594, 63, dear, 0, 0);
    }

    private static void leastBits() {
        Check.says("of alike ones the least bits of BELLIES.");
        EatenToll x = Check.told("dish a 1 0 9; man m 0 0 0 0; law 0 a = 2; belly p 1 5; belly q 1 5; belly r 1 5; belly s 2 10; belly t 2 10;");
        hired("11, 101, 110, 1000, 10000", 10, 3, x, 0, 0);
        EatenToll y = Check.told("dish a 1 0 9; man m 0 0 0 0; law 0 a = 2; belly p 2 6; belly q 2 5; belly r 2 5;");
        hired("10, 100", 5, 2, y, 0, 0);
        EatenToll free = Check.told("dish a 1 0 9; man m 1 0 0 0; law 0 a = 1; law 1 a = 2; belly p 9 0; belly q 9 0;");
        hired("none is needed", 0, 0, free, 0, 0);
        hired("one for nothing", 0, 1, free, 0, 1);
    }

    private static void hireStores() {
        Check.says("STORES must have enough.");
        for (int store = 2; store <= 4; store++) {
            EatenToll x = Check.told("dish b 1 0 9; dish a 1 0 " + store + "; man m 1 0 0 0; law 0 a = 3; law 1 b = 2; belly p 9 4;");
            hired("3 bites, STORE " + store, store < 3 ? -2 : 4, store < 3 ? -2 : 1, x, 0, 0);
            hired("2 bites of another dish", 4, 1, x, 0, 1);
        }
        EatenToll none = Check.told("dish a 1 0 0; man m 9 0 0 0; law 0 a = 1; law 1 a = 0; belly p 9 4;");
        hired("1 bite, STORE 0", -2, -2, none, 0, 0);
        hired("0 bites, STORE 0", 0, 0, none, 0, 1);
    }

    private static void tongueRoom() {
        Check.says("TONGUE: the fewest bites that he must keep under his tongue (not swallow) so that the rest goes into his room");
        int[] kept = {5, 5, 4, 4, 3, 3, 2, 2, 2, 2, 2, 1, 1, 1, 1, 1, 0, 0};
        for (int room = 0; room < kept.length; room++) {
            EatenToll x = Check.told("dish b 5 0 9; dish a 2 0 9; man m " + (room + 3) + " 3 0 0; law 0 a = 3; law 0 b = 2;");
            Check.due("2 2 2 5 5, room " + room, kept[room], x.tongue(0, 0));
            Check.due("no bite, room " + room, 0, x.tongue(0, 1));
        }
        EatenToll most = Check.told("dish a 9 0 9; dish b 9 0 9; dish c 9 0 9; dish d 9 0 9; man m 99 0 0 0; man n 0 0 0 0;"
            + "law 0 a = 6; law 0 b = 6; law 0 c = 6; law 0 d = 6;");
        Check.due("24 bites of 9, room 99", 13, most.tongue(0, 0));
        Check.due("24 bites of 9, room 0", 24, most.tongue(1, 0));
    }

    private static void tongueHates() {
        Check.says("(he HATES none of the rest, if he FASTS there is no rest; SICK: as well): of alike ones it does not matter which.");
        EatenToll alike = Check.told("dish a 2 0 9; dish b 2 9 9; man m 3 0 0 0; man n 4 0 0 0; law 0 a = 1; law 0 b = 1;");
        Check.due("either of two", 1, alike.tongue(0, 0));
        Check.due("none of two", 0, alike.tongue(1, 0));
        EatenToll x = Check.told("dish a 1 0 9; dish b 1 0 9; man p 9 0 0 0; man q 9 0 0 0 hates a; man r 9 0 0 0 hates b; man s 9 0 0 0 hates a hates b;"
            + "man t 9 0 0 0 fast 2 3; man u 9 0 0 0 ill a 1; law 0 a = 1; law 0 b = 2; law 1 a = 1;");
        int[] kept = {0, 1, 2, 3, 0, 0};
        for (int man = 0; man < 6; man++) {
            Check.due("tongue(" + man + ", 0)", kept[man], x.tongue(man, 0));
        }
        x.pass(5, 1);
        int[][] due = {{0, 0, 3}, {1, 0, 3}, {1, 3, 3}, {1, 3, 3}, {1, 0, 3}, {7, 0, 3}, {1, 0, 0}};
        for (int[] d : due) {
            x.later(d[0]);
            Check.due("fast 2 3, hour " + x.count(5), d[1], x.tongue(4, 0));
            Check.due("SICK from hour 0 on, hour " + x.count(5), d[2], x.tongue(5, 0));
        }
    }

    private static void tongueStores() {
        Check.says("TONGUE; -2: a STORE has not enough;");
        for (int store = 2; store <= 4; store++) {
            EatenToll x = Check.told("dish a 1 0 " + store + "; dish b 1 0 9; man m 1 0 0 0; man n 9 0 0 0 hates a fast 0 23; law 0 a = 3; law 1 b = 2;");
            Check.due("3 bites, STORE " + store, store < 3 ? -2 : 2, x.tongue(0, 0));
            Check.due("3 bites kept, STORE " + store, store < 3 ? -2 : 3, x.tongue(1, 0));
            Check.due("another dish", 1, x.tongue(0, 1));
        }
    }

    private static void odds(long due, int k, int a, int b) {
        Check.due("odds(" + k + ", " + a + ", " + b + ")", due, new EatenToll().odds(k, a, b));
    }

    private static void odds() {
        Check.says("ODDS of k bites: of b to the k ways those by which none is found, each found by a of b.");
        for (int b = 1; b <= 10; b++) {
            for (int a = 0; a <= b; a++) {
                odds(1, 0, a, b);
                odds(b - a, 1, a, b);
                odds((b - a) * (b - a), 2, a, b);
            }
        }
        odds(100000000000000000L, 17, 0, 10);
        odds(1000000000000000000L, 18, 0, 10);
        odds(16677181699666569L, 17, 1, 10);
        odds(150094635296999121L, 18, 1, 10);
        odds(150094635296999121L, 18, 0, 9);
        odds(1, 18, 9, 10);
        odds(0, 18, 10, 10);
        odds(0, 17, 1, 1);
        Check.says("ODDS of k bites (0 .. 18; b 1 .. 10, a 0 .. b); -1: no such ones.");
        int[][] no = {{-1, 1, 2}, {19, 1, 2}, {1, 0, 0}, {1, 0, 11}, {1, 1, 11}, {1, -1, 1}, {1, -1, 10}, {1, 2, 1}, {1, 11, 10}, {0, 1, 0},
            {0, 0, -1}, {18, 6, 5}, {19, 0, 1}, {-1, 0, 1}, {Integer.MIN_VALUE, 0, 1}, {Integer.MAX_VALUE, 0, 1}, {1, Integer.MIN_VALUE, 1},
            {1, Integer.MAX_VALUE, 10}, {1, 0, Integer.MAX_VALUE}, {1, 0, Integer.MIN_VALUE}};
        for (int[] n : no) {
            odds(-1, n[0], n[1], n[2]);
        }
        odds(1, 18, 0, 1);
        odds(262144, 18, 0, 2);
        odds(1, 2, 8, 9);
    }

    private static void pair(String what, int fewest, EatenToll x, int man, int other) {
        Check.due(what + ": split(" + man + ", " + other + ", 0)", fewest, x.split(man, other, 0));
        Check.due(what + ": together(" + man + ", " + other + ", 0)", fewest == -2 ? 0 : 1, x.together(man, other, 0));
    }

    private static void togetherRooms() {
        Check.says("whether all bites of both TOLLS go into both rooms, each bite swallowed by whoever");
        for (int room = 2; room <= 4; room++) {
            EatenToll x = Check.told("dish a 1 0 9; man m " + (room + 3) + " 3 0 0; man n 5 0 0 0; man o 8 0 0 0; man p 0 0 0 0; law 0 a = 4;");
            pair("8 bites, rooms " + room + " and 5", room < 3 ? -2 : 3, x, 0, 1);
            pair("8 bites, rooms 5 and " + room, room < 3 ? -2 : 8 - room, x, 1, 0);
            pair("8 bites, rooms 8 and 0", 8, x, 2, 3);
            pair("8 bites, rooms 0 and 8", 0, x, 3, 2);
            Check.due("no bite", 0, x.split(0, 3, 1));
            Check.due("no bite", 1, x.together(0, 3, 1));
        }
        EatenToll whole = Check.told("dish a 5 0 9; man m 9 0 0 0; man n 11 0 0 0; man o 10 0 0 0; man p 14 0 0 0; law 0 a = 2;");
        pair("four bites of 5, rooms 9 and 11", -2, whole, 0, 1);
        pair("four bites of 5, rooms 10 and 11", 2, whole, 2, 1);
        pair("four bites of 5, rooms 9 and 14", -2, whole, 0, 3);
        EatenToll most = Check.told("dish a 9 0 99; dish b 9 0 99; man m 99 0 0 0; man n 99 0 0 0; man o 98 0 0 0; law 0 a = 6; law 0 b = 5;");
        pair("22 bites of 9, rooms 99 and 99", 11, most, 0, 1);
        pair("22 bites of 9, rooms 99 and 98", -2, most, 0, 2);
        pair("22 bites of 9, rooms 98 and 99", -2, most, 2, 0);
    }

    private static void togetherTraits() {
        Check.says("(none that he HATES, none in a FAST, none by one who is SICK;");
        EatenToll x = Check.told("dish a 1 0 99; dish b 1 0 99; man p 12 0 0 0; man q 12 0 0 0 hates a; man r 12 0 0 0 hates b;"
            + "man s 12 0 0 0 fast 1 2; man t 12 0 0 0 ill a 1; man u 12 0 0 0 hates a; law 0 a = 1; law 0 b = 2; law 1 a = 1;");
        pair("all swallow all", 0, x, 0, 3);
        pair("the first hates a", 0, x, 1, 0);
        pair("the other hates a", 2, x, 0, 1);
        pair("the other hates b", 4, x, 0, 2);
        pair("one hates a, one b", 4, x, 1, 2);
        pair("one hates b, one a", 2, x, 2, 1);
        pair("both hate a", -2, x, 1, 5);
        int[] fewest = {0, 6, 6, 0};
        for (int hour = 0; hour < 4; hour++) {
            pair("the other fasts 1 2, hour " + hour, fewest[hour], x, 0, 3);
            pair("the first fasts 1 2, hour " + hour, 0, x, 3, 0);
            pair("a hater and one who fasts, hour " + hour, hour == 1 || hour == 2 ? -2 : 0, x, 1, 3);
            x.later(1);
        }
        x.pass(4, 1);
        pair("the other is SICK for 12 hours", 6, x, 0, 4);
        x.later(11);
        pair("the other is SICK for an hour", 6, x, 0, 4);
        pair("the first is", 0, x, 4, 0);
        pair("one who hates and one who is SICK", -2, x, 1, 4);
        x.later(1);
        pair("none is SICK", 0, x, 0, 4);
    }

    private static void oneMoreAhead() {
        Check.says("TOGETHER: two MEN at a GATE, the first with so many ahead as there are, the other one with one more:");
        EatenToll x = Check.told("dish a 1 0 99; man m 4 0 0 0; man n 2 0 0 0; man o 9 0 9 0; law 0 a = 3 * ahead; law 1 a = 1;");
        pair("0 and 3 bites", 1, x, 0, 1);
        x.pass(2, 1);
        pair("one has passed by the other gate", 1, x, 0, 1);
        x.pass(2, 0);
        pair("3 and 6 bites, rooms 4 and 2", -2, x, 0, 1);
        pair("3 and 6 bites, rooms 4 and 8", 1, x, 0, 2);
        pair("3 and 6 bites, rooms 8 and 4", 5, x, 2, 0);
        x.later(24);
        pair("none the next day", 1, x, 0, 1);
    }

    private static void togetherStores() {
        Check.says("STORES have enough for both): 1, else 0;");
        for (int store = 4; store <= 6; store++) {
            EatenToll x = Check.told("dish b 1 0 9; dish a 1 0 " + store + "; man m 9 0 0 0; man n 9 0 0 0; law 0 a = 2 + ahead; law 1 b = 1;");
            pair("2 and 3 bites, STORE " + store, store < 5 ? -2 : 0, x, 0, 1);
            Check.due("another dish", 1, x.together(0, 1, 1));
        }
    }

    /** What the other one hates goes to the first, as far as his room goes. */
    private static void fewestOfHated() {
        for (int room = 21; room <= 23; room++) {
            EatenToll x = Check.told("dish a 2 0 99; dish b 5 0 99; dish c 1 0 99; man m " + room + " 0 0 0; man n 99 0 0 0 hates a hates b;"
                + "man o 99 0 0 0; law 0 a = 3; law 0 b = 1; law 0 c = 1;");
            // Both tolls: six of a, two of b, two of c: bulk 22 of what he hates.
            pair("22 that the other hates, room " + room, room < 22 ? -2 : 8, x, 0, 1);
            pair("22 that the first hates, room " + room, room < 22 ? -2 : 24 - room, x, 1, 0);
            pair("the other hates nothing, room " + room, 0, x, 0, 2);
        }
        EatenToll tight = Check.told("dish a 2 0 99; dish b 5 0 99; dish c 1 0 99; man m 23 0 0 0; man n 1 0 0 0 hates a hates b; man o 0 0 0 0 hates a; law 0 a = 3; law 0 b = 1; law 0 c = 1;");
        EatenToll most = Check.told("dish a 9 0 99; dish b 9 0 99; dish c 9 0 99; dish d 9 0 99; man m 99 0 0 0; man n 99 0 0 0 hates a hates b hates c hates d;"
            + "law 0 a = 6; law 0 b = 6; law 0 c = 6; law 0 d = 6; law 1 a = if ahead < 1 then 6 else 5;");
        pair("432 that the other hates, room 99", -2, most, 0, 1);
        pair("432 that the first hates, room 99", -2, most, 1, 0);
        Check.due("99 that the other hates, room 99", 11, most.split(0, 1, 1));
        Check.due("99 that the first hates, room 99", 0, most.split(1, 0, 1));
        pair("22 and one of c more, rooms 23 and 1", 9, tight, 0, 1);
        pair("22 and two of c more, rooms 23 and 0", -2, tight, 0, 2);
    }

    /** Six bites of each of four dishes, and twice as many of two men. */
    private static void manyBites() {
        Check.says("so many bites of his TOLL, whatever DISHES;");
        for (int room = 4; room <= 6; room++) {
            EatenToll x = Check.told("dish a 1 0 99; dish b 2 0 99; dish c 3 0 99; dish d 4 0 99; man m 6 0 0 0; man n 30 0 0 0; man o " + (85 + room) + " 0 0 0;"
                + "law 0 a = 6; law 0 b = 6; law 0 c = 6; law 0 d = 6; belly p 9 1; belly q 10 2; belly r 10 4; belly s 10 8; belly t 10 16; belly u " + room + " 32;");
            hired("BULK 60, room 6 + 9 + 40 + " + room, room < 5 ? -2 : 63, room < 5 ? -2 : 63, x, 0, 0);
            // 24 bites of 60 in 30: 6 of a, 6 of b, 4 of c.
            Check.due("tongue of 60, room 30", 8, x.tongue(1, 0));
            pair("48 bites of 120, rooms 30 and " + (85 + room), room < 5 ? -2 : 8, x, 1, 2);
        }
    }

    private static void fewest() {
        Check.says("SPLIT: then the fewest bites that the first one swallows.");
        for (int room = 0; room <= 10; room++) {
            // Bites 2 2 and 3 3 of both: the fewest of them that leave no more than the other's room.
            EatenToll x = Check.told("dish a 2 0 9; dish b 3 0 9; man m 99 0 0 0; man n " + room + " 0 0 0; law 0 a = 1; law 0 b = 1;");
            int[] due = {4, 4, 3, 3, 2, 2, 2, 1, 1, 1, 0};
            pair("2 2 3 3, room " + room, due[room], x, 0, 1);
        }
        // With room 4 for the first, 6 of 10 must go to the other: 2 2 to the first, 3 3 to him.
        EatenToll tight = Check.told("dish a 2 0 9; dish b 3 0 9; man m 4 0 0 0; man n 6 0 0 0; man o 3 0 0 0; man p 7 0 0 0; law 0 a = 1; law 0 b = 1;");
        pair("2 2 3 3, rooms 4 and 6", 2, tight, 0, 1);
        pair("2 2 3 3, rooms 6 and 4", 2, tight, 1, 0);
        pair("2 2 3 3, rooms 3 and 7", 1, tight, 2, 3);
        pair("2 2 3 3, rooms 3 and 6", -2, tight, 2, 1);
        EatenToll five = Check.told("dish a 2 0 9; dish b 5 0 9; man m 4 0 0 0; man n 10 0 0 0; man o 9 0 0 0; man p 5 0 0 0; law 0 a = 1; law 0 b = 1;");
        pair("2 2 5 5, rooms 4 and 10", 2, five, 0, 1);
        pair("2 2 5 5, rooms 5 and 9", 1, five, 3, 2);
        pair("2 2 5 5, rooms 4 and 9", -2, five, 0, 2);
    }
}
