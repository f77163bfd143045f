/** The edges of plans, of the hour of a man and of the best law, as ==== III of the Terms tells them. */
public final class PlanEdgesTest {
    public static void main(String[] args) {
        hoursToTwentyThree();
        roomInTime();
        fastsAndSickness();
        storesAlwaysEnough();
        noneButThey();
        severalInOneHour();
        orders();
        leastAndMost();
        sumsOfAll();
        crowds();
        leastBitsOfCrowds();
        hourOfHours();
        hourOfStores();
        hourOfReasons();
        bestUpToSix();
        bestRooms();
        bestStores();
        bestLeavesOut();
        bestOfAlike();
        Check.end();
    }

    private static void hoursToTwentyThree() {
        Check.says("PLAN for a set of MEN, from now on, this day (hours from now to 23;");
        for (int from : new int[] {0, 1, 5, 22, 23, 24}) {
            EatenToll x = Check.told("dish a 1 1 9; man m 1 0 0 0; law 0 a = if hour < " + from + " then 2 else 1;"
                + "law 1 a = if hour < " + from + " then 1 else 2;");
            for (int now : new int[] {0, 4, 5, 6, 22, 23}) {
                x.later(now - x.count(5));
                int late = Math.max(now, from);
                String what = "from hour " + from + " on, now " + now;
                Check.due(what + ": soonest", late <= 23 ? late : -2, x.soonest(1, 0));
                Check.due(what + ": least", late <= 23 ? 1 : -2, x.least(1, 0, false));
                Check.due(what + ": most gain", late <= 23 ? 1 : -2, x.least(1, 0, true));
                Check.due(what + ": crowd", late <= 23 ? 1 : 0, x.crowd(1, 0, 0));
                what = "till hour " + from + ", now " + now;
                Check.due(what + ": soonest", now < from ? now : -2, x.soonest(1, 1));
                Check.due(what + ": least", now < from ? 1 : -2, x.least(1, 1, false));
                Check.due(what + ": crowd", now < from ? 1 : 0, x.crowd(1, 1, 1));
            }
            x.later(1);
            Check.due("hour 0 of the next day", from <= 23 ? from : -2, x.soonest(1, 0));
        }
    }

    private static void roomInTime() {
        // Toll of 4 * 5 + 3 and of 4 * 6: he has room for it 23 or 24 hours from now.
        EatenToll x = Check.told("dish a 4 1 99; dish b 3 1 99; man m 23 23 1 0; man n 24 24 1 0; man o 22 21 1 0; law 0 a = 5; law 0 b = 1; law 1 a = 6;");
        Check.due("room 23 at hour 23", 23, x.soonest(1, 0));
        Check.due("room 24 at hour 24", -2, x.soonest(2, 1));
        Check.due("room 23 at hour 23 of 24", 23, x.soonest(2, 0));
        Check.due("never room 23", -2, x.soonest(4, 0));
        Check.due("all but one", 3, x.crowd(7, 0, 1));
        x.later(1);
        Check.due("room 24 at hour 24", -2, x.soonest(2, 1));
        Check.due("room 23 at hour 23", 23, x.soonest(3, 0));
        EatenToll y = Check.told("dish a 3 1 9; man m 9 9 1 0; man n 9 9 0 0; law 0 a = 1;");
        Check.due("room 3 at hour 3", 3, y.soonest(1, 0));
        Check.due("never", -2, y.soonest(2, 0));
        Check.due("never both", -2, y.soonest(3, 0));
    }

    private static void fastsAndSickness() {
        EatenToll x = Check.told("dish a 1 1 9; man p 9 0 0 0 fast 0 21; man q 9 0 0 0 fast 0 22; man r 9 0 0 0 fast 0 23; man s 9 0 0 0 hates a;"
            + "man t 9 0 0 0; law 0 a = 1;");
        int[] hours = {22, 23, -2, -2, 0};
        for (int man = 0; man < 5; man++) {
            Check.due("soonest of " + man, hours[man], x.soonest(1 << man, 0));
            Check.due("no bite, soonest of " + man, 0, x.soonest(1 << man, 1));
        }
        for (int hour = 10; hour <= 12; hour++) {
            EatenToll y = Check.told("dish a 1 1 9; man m 9 0 0 0 ill a 1; law 0 a = 1;");
            y.later(hour);
            y.pass(0, 0);
            Check.due("SICK for 12 hours from hour " + hour + " on", hour < 12 ? hour + 12 : -2, y.soonest(1, 0));
            Check.due("no bite", hour < 12 ? hour + 12 : -2, y.soonest(1, 1));
        }
    }

    private static void storesAlwaysEnough() {
        Check.says("STORES as if there were always enough, left as it is now;");
        for (int store = 0; store <= 3; store++) {
            EatenToll x = Check.told("dish a 1 1 " + store + "; man m 9 0 0 0; man n 9 0 0 0; law 0 a = 2; law 1 a = left;");
            Check.due("may, STORE " + store, store < 2 ? 4 : 0, x.may(0, 0));
            Check.due("soonest, STORE " + store, 0, x.soonest(3, 0));
            Check.due("least, STORE " + store, 4, x.least(3, 0, false));
            Check.due("most gain, STORE " + store, 4, x.least(3, 0, true));
            Check.due("crowd, STORE " + store, 3, x.crowd(3, 0, 1));
            Check.due("left as it is now, STORE " + store, 2 * store, x.least(3, 1, false));
        }
    }

    private static void noneButThey() {
        Check.says("none but they pass; who passes swallows once):");
        EatenToll x = Check.told("dish a 1 1 9; man m 9 0 0 0; man n 9 0 0 0; man o 9 0 0 0; law 0 a = 1 + ahead; goes o 0; goes n 0;");
        int[][] due = {{0, 0}, {1, 1}, {2, 1}, {4, 1}, {3, 3}, {5, 3}, {6, 3}, {7, 6}};
        for (int[] d : due) {
            Check.due("least bulk of " + d[0], d[1], x.least(d[0], 0, false));
            Check.due("most gain of " + d[0], d[1], x.least(d[0], 0, true));
        }
    }

    private static void severalInOneHour() {
        Check.says("SOONEST: the least hour by which all of them can have passed a GATE, in whatever order, several in one hour too");
        StringBuilder text = new StringBuilder("dish a 1 1 9; law 0 a = 1; law 1 a = hour;");
        for (int man = 0; man < 8; man++) {
            text.append("man m").append((char) ('a' + man)).append(" 9 ").append(9 - man).append(" 0 0;");
        }
        EatenToll x = Check.told(text.toString());
        Check.due("all but one without room", 0, x.soonest(254, 0));
        Check.due("with him", -2, x.soonest(255, 0));
        Check.due("all at hour 0", 0, x.soonest(255, 1));
        x.later(1);
        Check.due("one has no room at hour 1", -2, x.soonest(255, 1));
        Check.due("all but him", 1, x.soonest(254, 1));
        EatenToll y = Check.told("dish a 1 1 9; man p 9 9 1 0; man q 9 8 1 0; man r 9 0 0 0 fast 0 4; law 0 a = 3;");
        int[][] due = {{1, 3}, {2, 2}, {3, 3}, {4, 5}, {5, 5}, {6, 5}, {7, 5}};
        for (int[] d : due) {
            Check.due("soonest of " + d[0], d[1], y.soonest(d[0], 0));
        }
    }

    private static void orders() {
        Check.says("(each with so many ahead as passed by that GATE this day, with those ahead of him).");
        EatenToll x = Check.told("dish a 1 1 9; man p 3 0 0 0; man q 2 0 0 0; man r 1 0 0 0; man s 2 0 0 0; man t 9 0 0 0; law 0 a = 1 + ahead; law 1 a = 0;");
        Check.due("rooms 3 2 1", 0, x.soonest(7, 0));
        Check.due("rooms 2 1 2", -2, x.soonest(14, 0));
        Check.due("rooms 3 2 2", 0, x.soonest(11, 0));
        Check.due("rooms 3 2 1 2", -2, x.soonest(15, 0));
        x.pass(4, 1);
        Check.due("one ahead by the other gate", 0, x.soonest(7, 0));
        x.pass(4, 0);
        Check.due("one ahead, rooms 3 2 1", -2, x.soonest(7, 0));
        Check.due("one ahead, rooms 3 2", 0, x.soonest(3, 0));
        Check.due("one ahead, room 1", -2, x.soonest(4, 0));
        x.later(24);
        Check.due("none ahead the next day", 0, x.soonest(7, 0));
        EatenToll last = Check.told("dish a 1 1 9; man p 0 0 0 0; man q 1 0 0 0; law 0 a = if ahead < 1 then 1 else 0;");
        Check.due("room 0 goes last", 0, last.soonest(3, 0));
        Check.due("room 0 alone", -2, last.soonest(1, 0));
    }

    private static void leastAndMost() {
        Check.says("LEAST: the least sum of BULK swallowed, all by one GATE, at whatever hours; MOST GAIN: the greatest sum of GAIN likewise.");
        EatenToll x = Check.told("dish a 1 0 9; dish b 2 3 9; man m 20 0 0 0;"
            + "law 0 a = if hour < 10 then 3 else if hour < 11 then 1 else if hour < 23 then 4 else 2;"
            + "law 1 b = if hour < 9 then 2 else if hour < 10 then 6 else if hour < 23 then 1 else 3;");
        int[][] due = {{0, 1, 18}, {8, 1, 18}, {9, 1, 18}, {10, 1, 9}, {11, 2, 9}, {22, 2, 9}, {23, 2, 9}};
        for (int[] d : due) {
            x.later(d[0] - x.count(5));
            Check.due("least bulk, now " + d[0], d[1], x.least(1, 0, false));
            Check.due("most gain, now " + d[0], d[2], x.least(1, 1, true));
            Check.due("no gain, now " + d[0], 0, x.least(1, 0, true));
        }
        x.later(1);
        Check.due("the next day", 1, x.least(1, 0, false));
    }

    private static void sumsOfAll() {
        // The second swallows more bulk the more are ahead; who goes second settles the gain.
        EatenToll x = Check.told("dish a 1 1 9; man m 9 0 0 1; man n 9 0 0 5; law 0 a = if ahead < 1 then 1 else load; law 1 a = 6 - load * ahead;");
        Check.due("least: the one with load 1 second", 2, x.least(3, 0, false));
        Check.due("most: the one with load 5 second", 6, x.least(3, 0, true));
        Check.due("least: the one with load 5 second", 7, x.least(3, 1, false));
        Check.due("most: the one with load 1 second", 11, x.least(3, 1, true));
        Check.due("one alone", 6, x.least(2, 1, true));
        EatenToll y = Check.told("dish a 9 99 9; dish b 9 99 9; man p 99 0 0 0; man q 99 0 0 0; man r 99 0 0 0; man s 99 0 0 0; man t 99 0 0 0; man u 99 0 0 0;"
            + "man v 99 0 0 0; man w 99 0 0 0; law 0 a = 6; law 0 b = 5;");
        EatenToll ahead = Check.told("dish a 1 1 9; man p 9 0 0 0; man q 9 0 0 0; man r 9 0 0 0; man s 9 0 0 0; man t 9 0 0 0; man u 9 0 0 0; man v 9 0 0 0;"
            + "man w 9 0 0 0; law 0 a = ahead; law 1 a = ahead - 4;");
        Check.due("0 + 1 .. + 6 + 6", 27, ahead.least(255, 0, false));
        Check.due("0 .. + 1 + 2 + 3", 6, ahead.least(255, 1, true));
        Check.due("0 .. + 1 + 2", 3, ahead.least(127, 1, false));
        Check.due("eight times 99", 792, y.least(255, 0, false));
        Check.due("eight times 11 * 99", 8712, y.least(255, 0, true));
    }

    private static void crowds() {
        Check.says("CROWD: the most MEN of the set that can have passed the GATE this day, in whatever order;");
        EatenToll x = Check.told("dish a 1 1 9; man p 1 0 0 0; man q 2 0 0 0; man r 3 0 0 0; man s 0 0 0 0; man t 4 0 0 0 fast 0 23; law 0 a = 1 + ahead;");
        int[][] due = {{0, 0, 0}, {1, 1, 1}, {8, 0, 0}, {16, 0, 0}, {24, 0, 0}, {3, 2, 3}, {7, 3, 7}, {15, 3, 7}, {31, 3, 7}, {30, 2, 6}, {20, 1, 4}};
        for (int[] d : due) {
            Check.due("how many of " + d[0], d[1], x.crowd(d[0], 0, 0));
            Check.due("who of " + d[0], d[2], x.crowd(d[0], 0, 1));
        }
        x.later(23);
        Check.due("in the last hour", 7, x.crowd(31, 0, 1));
    }

    private static void leastBitsOfCrowds() {
        Check.says("of alike ones the least bits. HOUR of a MAN:");
        EatenToll x = Check.told("dish a 1 1 9; man p 1 0 0 0; man q 1 0 0 0; man r 1 0 0 0; man s 2 0 0 0; man t 2 0 0 0; law 0 a = 1 + ahead;");
        int[][] due = {{1, 1}, {3, 1}, {7, 1}, {6, 2}, {15, 9}, {31, 9}, {30, 10}, {28, 12}, {24, 24}, {20, 20}};
        for (int[] d : due) {
            Check.due("who of " + d[0], d[1], x.crowd(d[0], 0, 1));
        }
    }

    private static void hourOfHours() {
        Check.says("of the hours from now to 23 at which he MAY PASS, none else passing, STORES as they are now,"
            + " that with the least BULK (or with the most GAIN); of alike ones the first.");
        EatenToll x = Check.told("dish a 1 1 99; man m 9 0 0 0; man n 9 0 0 0; goes n 0; law 1 a = 4 + ahead;"
            + "law 0 a = if hour < 7 then 3 else if hour < 9 then 2 else if hour < 11 then 5 else if hour < 23 then 3 else 2;");
        int[][] due = {{0, 7, 9}, {6, 7, 9}, {7, 7, 9}, {8, 8, 9}, {9, 23, 9}, {10, 23, 10}, {11, 23, 11}, {22, 23, 22}, {23, 23, 23}};
        for (int[] d : due) {
            x.later(d[0] - x.count(5));
            Check.due("least bulk, now " + d[0], d[1], x.hourOf(0, 0, false));
            Check.due("most gain, now " + d[0], d[2], x.hourOf(0, 0, true));
            Check.due("always alike, now " + d[0], d[0], x.hourOf(0, 1, false));
            Check.due("always alike, now " + d[0], d[0], x.hourOf(0, 1, true));
        }
        x.later(1);
        Check.due("the next day", 7, x.hourOf(0, 0, false));
    }

    private static void hourOfStores() {
        for (int store = 2; store <= 4; store++) {
            EatenToll x = Check.told("dish a 1 1 " + store + "; man m 9 0 0 0; law 0 a = if hour < 5 then 4 else if hour < 6 then 3 else 2; law 1 a = 3;");
            Check.due("most gain, STORE " + store, store == 2 ? 6 : store == 3 ? 5 : 0, x.hourOf(0, 0, true));
            Check.due("least bulk, STORE " + store, 6, x.hourOf(0, 0, false));
            Check.due("3 bites, STORE " + store, store == 2 ? -2 : 0, x.hourOf(0, 1, false));
        }
    }

    private static void hourOfReasons() {
        EatenToll x = Check.told("dish a 1 1 99; man p 3 3 1 0; man q 9 0 0 0 fast 0 22; man r 9 0 0 0 fast 0 23; man s 9 0 0 0 hates a; man t 2 2 0 0;"
            + "man u 9 0 9 0 ill a 3; man v 23 23 1 0; law 0 a = 3;");
        int[] hours = {3, 23, -2, -2, -2, 0, 3};
        for (int man = 0; man < 7; man++) {
            Check.due("hourOf(" + man + ", 0, false)", hours[man], x.hourOf(man, 0, false));
            Check.due("no bite: hourOf(" + man + ", 1, false)", 0, x.hourOf(man, 1, false));
        }
        x.later(11);
        x.pass(5, 0);
        Check.due("well again at hour 23", 23, x.hourOf(5, 0, true));
        x.undo();
        x.later(1);
        x.pass(5, 0);
        Check.due("not well again this day", -2, x.hourOf(5, 0, true));
    }

    private static void bestLaw(String what, EatenToll x, int set, int gain, int... bites) {
        Check.due(what + ": best(" + set + ", -1)", gain, x.best(set, -1));
        for (int dish = 0; dish < bites.length; dish++) {
            Check.due(what + ": best(" + set + ", " + dish + ")", bites[dish], x.best(set, dish));
        }
    }

    private static void bestUpToSix() {
        Check.says("BEST LAW for a set of MEN: of all laws of whole bites (0 .. 6 of each DISH, the same for all)");
        EatenToll x = Check.told("dish a 1 1 99; dish b 1 2 99; dish c 1 3 99; dish d 1 99 99; man p 24 0 0 0; man q 23 0 0 0; man r 25 0 0 0; man s 1 0 0 0; man t 0 0 0 0;");
        bestLaw("room 24", x, 1, 6 * 105, 6, 6, 6, 6);
        bestLaw("room 23", x, 2, 6 * 105 - 1, 5, 6, 6, 6);
        bestLaw("room 25", x, 4, 6 * 105, 6, 6, 6, 6);
        bestLaw("room 1", x, 8, 99, 0, 0, 0, 1);
        bestLaw("room 0", x, 16, 0, 0, 0, 0, 0);
        bestLaw("none", x, 0, 0, 0, 0, 0, 0);
        bestLaw("rooms 24 and 23: both swallow 23", x, 3, 2 * (6 * 105 - 1), 5, 6, 6, 6);
    }

    private static void bestRooms() {
        Check.says("that by which, now, those of the set that MAY PASS by it bring the GATE the most GAIN together");
        for (int room = 11; room <= 13; room++) {
            EatenToll x = Check.told("dish a 2 5 99; man m " + (room + 4) + " 4 0 0;");
            bestLaw("bulk 2, room " + room, x, 1, room < 12 ? 25 : 30, room < 12 ? 5 : 6);
        }
        EatenToll y = Check.told("dish a 1 1 99; dish b 1 2 99; man p 6 0 0 0 hates b; man q 6 0 0 0 fast 1 2; man r 6 0 6 0 ill a 1; law 0 a = 1;");
        bestLaw("one hates b", y, 1, 6, 6, 0);
        bestLaw("one hates b, one does not: 6 of a by both, or 6 of b by one", y, 3, 12, 0, 6);
        bestLaw("one hates b, two do not", y, 7, 24, 0, 6);
        y.pass(2, 0);
        bestLaw("SICK for 12 hours", y, 4, 0, 0, 0);
        int[] gains = {0, 0, 12};
        for (int hour = 1; hour <= 3; hour++) {
            y.later(1);
            bestLaw("fast 1 2, hour " + hour, y, 2, gains[hour - 1], 0, gains[hour - 1] / 2);
        }
        y.later(8);
        bestLaw("SICK for an hour", y, 4, 0, 0, 0);
        y.later(1);
        bestLaw("SICK no more", y, 4, 12, 0, 6);
    }

    private static void bestStores() {
        Check.says("(STORES for all of them, one by one by numbers;");
        int[][] due = {{0, 0, 0}, {1, 1, 1}, {2, 2, 1}, {5, 5, 5}, {11, 10, 5}, {12, 12, 6}, {13, 12, 6}};
        for (int[] d : due) {
            EatenToll x = Check.told("dish a 1 1 " + d[0] + "; man m 9 0 0 0; man n 9 0 0 0;");
            bestLaw("two men, STORE " + d[0], x, 3, d[1], d[2]);
        }
        int[][] alone = {{0, 0}, {1, 1}, {5, 5}, {6, 6}, {7, 6}};
        for (int[] d : alone) {
            EatenToll x = Check.told("dish a 1 1 " + d[0] + "; man m 9 0 0 0; man n 9 0 0 0;");
            bestLaw("one man, STORE " + d[0], x, 2, d[1], d[1]);
        }
        EatenToll two = Check.told("dish a 1 1 3; dish b 1 9 1; man m 9 0 0 0; man n 9 0 0 0; man o 9 0 0 0;");
        // One bite of b feeds one man only; with three of a beside it he brings 12.
        bestLaw("b for one man, with all of a", two, 7, 12, 3, 1);
    }

    private static void bestLeavesOut() {
        Check.says("who may not is left out);");
        int[][] due = {{0, 6, 6}, {1, 6, 6}, {2, 6, 6}, {3, 6, 3}, {4, 8, 4}, {5, 10, 5}, {6, 12, 6}, {7, 12, 6}};
        for (int[] d : due) {
            EatenToll x = Check.told("dish a 1 1 99; man m " + d[0] + " 0 0 0; man n 6 0 0 0;");
            bestLaw("rooms " + d[0] + " and 6", x, 3, d[1], d[2]);
            // The first, who has no room, leaves the store to the other one.
            EatenToll y = Check.told("dish a 1 1 6; man m " + Math.min(d[0], 2) + " 0 0 0; man n 6 0 0 0;");
            bestLaw("rooms " + Math.min(d[0], 2) + " and 6, STORE 6", y, 3, 6, 6);
        }
    }

    private static void bestOfAlike() {
        Check.says("of alike ones the least number of bites of DISH 0, then of DISH 1, and so on.");
        EatenToll x = Check.told("dish a 1 1 99; dish b 1 1 99; dish c 1 1 99; dish d 1 1 99; man p 5 0 0 0; man q 6 0 0 0; man r 7 0 0 0; man s 12 0 0 0; man t 13 0 0 0; man u 19 0 0 0;");
        int[][] due = {{0, 0, 0, 5}, {0, 0, 0, 6}, {0, 0, 1, 6}, {0, 0, 6, 6}, {0, 1, 6, 6}, {1, 6, 6, 6}};
        int[] gains = {5, 6, 7, 12, 13, 19};
        for (int man = 0; man < 6; man++) {
            bestLaw("all alike", x, 1 << man, gains[man], due[man]);
        }
        EatenToll none = Check.told("dish a 1 0 99; dish b 1 1 99; dish c 1 0 99; man p 9 0 0 0;");
        bestLaw("bites that gain nothing", none, 1, 6, 0, 6, 0);
        EatenToll y = Check.told("dish a 2 2 99; dish b 1 1 99; man p 6 0 0 0; man q 7 0 0 0; man r 8 0 0 0;");
        bestLaw("six of b", y, 1, 6, 0, 6);
        bestLaw("one of a, five of b", y, 2, 7, 1, 5);
        bestLaw("one of a, six of b", y, 4, 8, 1, 6);
    }
}
