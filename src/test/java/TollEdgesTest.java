/** The edges of laws, of who may pass, of passing and of hours, as ==== II of the Terms tells them. */
public final class TollEdgesTest {
    // 2 to the 31 wraps to the least int; one less than that is the greatest.
    private static final String LEAST = "256*256*256*128";
    private static final String GREATEST = "(256*256*256*128-1)";

    public static void main(String[] args) {
        heldToSix();
        firstIfThatHolds();
        wraps();
        roundsTowardsZero();
        dividedByZero();
        hour();
        loadRoomFull();
        ahead();
        aheadOfAll();
        left();
        sick();
        notSick();
        fasts();
        hates();
        stores();
        bulk();
        firstReason();
        swallowsAll();
        swallowsOfFour();
        makesIll();
        sickForTwelve();
        empties();
        nextDay();
        Check.end();
    }

    /** What a law tells to a man with room 8 of 9 and load 40, with 5 bites in store. */
    private static void law(int bites, String law) {
        EatenToll x = Check.told("dish a 1 2 5; man m 9 1 1 40; law 0 a = " + law + ";");
        Check.due(law, bites, x.toll(0, 0, 0));
    }

    private static void heldToSix() {
        Check.says("TOLL of a MAN at a GATE: of each DISH so many bites as its LAW tells, held to 0 .. 6:");
        int[][] held = {{0, 0}, {1, 1}, {2, 2}, {5, 5}, {6, 6}, {7, 6}, {8, 6}, {9999, 6}};
        for (int[] h : held) {
            law(h[1], String.valueOf(h[0]));
        }
        law(0, "0-1");
        law(0, "0-2");
        law(0, "0-9999");
        law(6, GREATEST);
        law(0, LEAST);
        EatenToll x = Check.told("dish a 1 0 9; dish b 2 0 9; dish c 3 0 9; dish d 4 0 9; man m 99 0 0 0;"
            + "law 0 a = 0 - 1; law 0 b = 0; law 0 c = 6; law 0 d = 7;");
        int[] bites = {0, 0, 6, 6};
        for (int dish = 0; dish < 4; dish++) {
            Check.due("toll(0, 0, " + dish + ")", bites[dish], x.toll(0, 0, dish));
        }
        Check.due("all BULK", 6 * 3 + 6 * 4, x.toll(0, 0, -1));
    }

    private static void firstIfThatHolds() {
        Check.says("the E of the first if that holds (the one less than the other), else the last one;");
        law(1, "if 1 < 2 then 1 else 2");
        law(2, "if 2 < 2 then 1 else 2");
        law(2, "if 3 < 2 then 1 else 2");
        law(1, "if 0-1 < 0 then 1 else 2");
        law(2, "if 0 < 0-1 then 1 else 2");
        law(1, "if " + LEAST + " < " + GREATEST + " then 1 else 2");
        law(2, "if " + GREATEST + " < " + LEAST + " then 1 else 2");
        law(2, "if " + GREATEST + " < " + GREATEST + " then 1 else 2");
        law(1, "if " + GREATEST + "-1 < " + GREATEST + " then 1 else 2");
        law(1, "if " + LEAST + " < " + LEAST + "+1 then 1 else 2");
        law(2, "if " + LEAST + " < " + LEAST + " then 1 else 2");
        for (int first = 1; first <= 5; first++) {
            StringBuilder text = new StringBuilder();
            for (int branch = 1; branch <= 4; branch++) {
                text.append("if ").append(branch < first ? 1 : 0).append(" < 1 then ").append(branch).append(" else ");
            }
            law(first, text + "5");
        }
        law(3, "if 1 < 1 then 1 else if 2 < 1 then 2 else if 0 < 1 then 3 else if 1 < 1 then 4 else 5");
    }

    private static void wraps() {
        Check.says("ints of 32 bits that wrap, / rounded towards 0;");
        law(1, "if 0 < " + GREATEST + " then 1 else 2");
        law(1, "if " + GREATEST + " + 1 < 0 then 1 else 2");
        law(1, "if " + LEAST + " < 0 then 1 else 2");
        law(1, "if 0 < " + LEAST + " - 1 then 1 else 2");
        law(1, "if 0 < 256*256*256*127 then 1 else 2");
        law(3, "256*256*256*256 + 3");
        law(4, GREATEST + " + " + GREATEST + " + 6");
        law(1, "if " + LEAST + " / (0 - 1) < 0 then 1 else 2");
        law(1, "if 0 < (" + LEAST + " + 1) / (0 - 1) then 1 else 2");
        law(2, GREATEST + " / (" + GREATEST + " / 2)");
        law(1, LEAST + " / (" + LEAST + ")");
    }

    private static void roundsTowardsZero() {
        int[][] quotients = {{5, 1}, {6, 2}, {7, 2}, {0, 0}, {1, 0}, {2, 0}, {3, 1}};
        for (int[] q : quotients) {
            law(q[1], q[0] + " / 3");
            law(3 - q[1], "3 + (0 - " + q[0] + ") / 3");
            law(3 - q[1], "3 + " + q[0] + " / (0 - 3)");
            law(3 + q[1], "3 + (0 - " + q[0] + ") / (0 - 3)");
        }
    }

    private static void dividedByZero() {
        Check.says("a LAW in which something that is looked at is divided by 0 is 0.");
        law(4, "4 / (2 - 1)");
        law(0, "4 / (2 - 2)");
        law(2, "6 + 4 / (2 - 3)");
        law(0, "0 / (2 - 2)");
        law(0, "5 + 4 / (2 - 2)");
        law(0, "5 + 0 * (4 / 0)");
        law(0, "5 - (4 - 3 / 0)");
        law(0, "if 1 / 0 < 2 then 3 else 4");
        law(0, "if 1 < 2 / 0 then 3 else 4");
        law(0, "if 1 < 2 then 3 / 0 else 4");
        law(4, "if 2 < 2 then 3 / 0 else 4");
        law(3, "if 1 < 2 then 3 else 4 / 0");
        law(0, "if 2 < 2 then 3 else 4 / 0");
        law(3, "if 1 < 2 then 3 else if 1 / 0 < 2 then 4 else 5");
        law(0, "if 2 < 2 then 3 else if 1 / 0 < 2 then 4 else 5");
        law(0, "if 2 < 2 then 3 else if 1 < 2 then 4 / 0 else 5");
        EatenToll x = Check.told("dish a 1 0 9; dish b 1 0 9; man m 9 0 0 0; law 0 a = 6 / hour; law 0 b = 4; law 1 a = 6 / (hour - 1);");
        Check.due("by 0", 0, x.toll(0, 0, 0));
        Check.due("another LAW", 4, x.toll(0, 0, 1));
        Check.due("by -1", 0, x.toll(0, 1, 0));
        x.later(1);
        Check.due("by 1", 6, x.toll(0, 0, 0));
        Check.due("by 0", 0, x.toll(0, 1, 0));
        x.later(1);
        Check.due("by 2", 3, x.toll(0, 0, 0));
        Check.due("by 1", 6, x.toll(0, 1, 0));
    }

    private static void hour() {
        Check.says("VARS: hour (0 .. 23),");
        EatenToll x = Check.told("dish a 1 0 9; man m 9 0 0 0; law 0 a = hour - 18; law 1 a = 6 - hour;");
        int[][] due = {{0, 0, 6}, {1, 0, 5}, {21, 4, 0}, {1, 5, 0}, {1, 0, 6}, {1, 0, 5}, {23, 0, 6}};
        for (int[] d : due) {
            x.later(d[0]);
            Check.due("law 0 at hour " + x.count(5), d[1], x.toll(0, 0, 0));
            Check.due("law 1 at hour " + x.count(5), d[2], x.toll(0, 1, 0));
        }
    }

    private static void loadRoomFull() {
        Check.says("load, room (BELLY less FULL), full,");
        EatenToll x = Check.told("dish a 1 0 99; man p 9 9 1 0; man q 9 8 1 1; man r 6 0 1 999; man s 0 0 0 998;"
            + "law 0 a = room; law 1 a = full - 4; dish b 1 0 0; law 0 b = load - 995; law 1 b = load;");
        int[][] due = {{0, 5, 0, 0}, {1, 4, 0, 1}, {6, 0, 4, 6}, {0, 0, 3, 6}};
        for (int man = 0; man < 4; man++) {
            Check.due("room of " + man, due[man][0], x.toll(man, 0, 0));
            Check.due("full - 4 of " + man, due[man][1], x.toll(man, 1, 0));
            Check.due("load - 995 of " + man, due[man][2], x.toll(man, 0, 1));
            Check.due("load of " + man, due[man][3], x.toll(man, 1, 1));
        }
        x.later(1);
        Check.due("room an hour later", 1, x.toll(0, 0, 0));
        Check.due("full - 4 an hour later", 4, x.toll(0, 1, 0));
    }

    private static void ahead() {
        Check.says("ahead (how many have passed this day by this GATE),");
        EatenToll x = Check.told("dish a 1 0 0; man m 9 0 0 0; man n 9 0 0 0;"
            + "law 0 a = if hour < 23 then 0 else ahead; law 1 a = if hour < 23 then 0 else ahead;");
        x.later(22);
        x.pass(0, 0);
        x.pass(1, 0);
        x.pass(1, 1);
        Check.due("toll(0, 0, 0) ahead of hour 23", 0, x.toll(0, 0, 0));
        x.later(1);
        Check.due("two by gate 0", 2, x.toll(0, 0, 0));
        Check.due("one by gate 1", 1, x.toll(0, 1, 0));
        x.later(24);
        Check.due("none the next day", 0, x.toll(0, 0, 0));
        Check.due("none the next day", 0, x.toll(0, 1, 0));
        x.undo();
        x.undo();
        x.undo();
        x.later(1);
        Check.due("none by gate 1, as it was undone", 0, x.toll(0, 1, 0));
        Check.due("two by gate 0", 2, x.toll(0, 0, 0));
    }

    /** Whoever asks about a toll asks with those ahead. */
    private static void aheadOfAll() {
        EatenToll x = Check.told("dish a 1 0 99; man m 3 0 0 0; man n 99 0 0 0; law 0 a = 1 + 2 * ahead; belly p 1 7; belly q 2 9;");
        int[] why = {0, 0, 5, 5};
        int[] fees = {0, 0, 9, 16};
        int[] kept = {0, 0, 2, 3};
        for (int ahead = 0; ahead < 4; ahead++) {
            Check.due("bites, ahead " + ahead, Math.min(6, 1 + 2 * ahead), x.toll(0, 0, 0));
            Check.due("may, ahead " + ahead, why[ahead], x.may(0, 0));
            Check.due("hire, ahead " + ahead, fees[ahead], x.hire(0, 0, 0));
            Check.due("tongue, ahead " + ahead, kept[ahead], x.tongue(0, 0));
            Check.due("when, ahead " + ahead, ahead < 2 ? 0 : -2, x.when(0, 0));
            x.pass(1, 0);
        }
    }

    private static void left() {
        Check.says("left (STORE of the DISH),");
        EatenToll x = Check.told("dish a 1 0 5; dish b 1 0 0; dish c 1 0 999; man m 99 0 0 0; law 0 a = left; law 0 b = left; law 0 c = left - 995;"
            + "law 1 a = 1;");
        int[] bites = {5, 0, 4};
        for (int dish = 0; dish < 3; dish++) {
            Check.due("toll(0, 0, " + dish + ")", bites[dish], x.toll(0, 0, dish));
        }
        x.pass(0, 1);
        Check.due("one less", 4, x.toll(0, 0, 0));
        x.pass(0, 0);
        Check.due("none left", 0, x.toll(0, 0, 0));
        Check.due("none left", 0, x.dish(0, 0));
        Check.due("995 left", 0, x.toll(0, 0, 2));
    }

    private static void sick() {
        Check.says("sick (1 if he is SICK, else 0).");
        EatenToll x = Check.told("dish a 1 0 9; man m 9 0 0 0 ill a 1; man n 9 0 0 0; law 0 a = 1; law 1 a = 2 + 3 * sick;");
        Check.due("ahead of it", 2, x.toll(0, 1, 0));
        x.pass(0, 0);
        Check.due("12 hours", 5, x.toll(0, 1, 0));
        Check.due("another one", 2, x.toll(1, 1, 0));
        x.later(11);
        Check.due("1 hour", 5, x.toll(0, 1, 0));
        x.later(1);
        Check.due("0 hours", 2, x.toll(0, 1, 0));
        x.later(1);
        Check.due("an hour behind it", 2, x.toll(0, 1, 0));
    }

    private static void notSick() {
        Check.says("He MAY PASS: 1 if not SICK,");
        EatenToll x = Check.told("dish a 1 0 9; man m 9 0 0 0 ill a 1; law 0 a = 1;");
        Check.due("not SICK", 0, x.may(0, 0));
        x.pass(0, 0);
        int[][] due = {{0, 1}, {1, 1}, {10, 1}, {1, 0}, {1, 0}};
        for (int[] d : due) {
            x.later(d[0]);
            Check.due("at hour " + x.count(5), d[1], x.may(0, 0));
            Check.due("no bite, at hour " + x.count(5), d[1], x.may(0, 1));
        }
    }

    private static void fasts() {
        Check.says("2 if he does not FAST that hour or there is no bite,");
        int[][] fasts = {{5, 7}, {0, 0}, {23, 23}, {0, 23}, {11, 12}, {0, 1}, {22, 23}, {8, 8}};
        StringBuilder text = new StringBuilder("dish a 1 0 9; law 0 a = 1;");
        for (int man = 0; man < fasts.length; man++) {
            text.append("man m").append((char) ('a' + man)).append(" 9 0 0 0 fast ").append(fasts[man][0]).append(' ')
                .append(fasts[man][1]).append(';');
        }
        EatenToll x = Check.told(text.toString());
        for (int hour = 0; hour <= 24; hour++) {
            for (int man = 0; man < fasts.length; man++) {
                boolean fast = hour % 24 >= fasts[man][0] && hour % 24 <= fasts[man][1];
                Check.due("fast " + fasts[man][0] + " " + fasts[man][1] + ", hour " + hour, fast ? 2 : 0, x.may(man, 0));
            }
            Check.due("no bite, hour " + hour, 0, x.may(3, 1));
            x.later(1);
        }
    }

    private static void hates() {
        Check.says("3 if he HATES no DISH of which there is a bite,");
        EatenToll x = Check.told("dish a 1 0 9; dish b 1 0 9; man p 9 0 0 0; man q 9 0 0 0 hates a; man r 9 0 0 0 hates b; man s 9 0 0 0 hates a hates b;"
            + "law 0 a = 1; law 1 a = 0; law 1 b = hour - 1;");
        int[][] due = {{0, 3, 0, 3}, {0, 0, 0, 0}, {0, 0, 0, 0}, {0, 0, 3, 3}};
        for (int man = 0; man < 4; man++) {
            Check.due("one bite of a, none of b: " + man, due[0][man], x.may(man, 0));
        }
        for (int hour = 0; hour < 3; hour++) {
            for (int man = 0; man < 4; man++) {
                Check.due("none of a, " + Math.max(0, hour - 1) + " of b: " + man, due[1 + hour][man], x.may(man, 1));
            }
            x.later(1);
        }
    }

    private static void stores() {
        Check.says("4 if each STORE has enough,");
        for (int store = 2; store <= 4; store++) {
            EatenToll x = Check.told("dish a 1 0 " + store + "; dish b 1 0 9; man m 9 0 0 0; law 0 a = 3; law 0 b = 1; law 1 b = 1;");
            Check.due("3 bites, STORE " + store, store < 3 ? 4 : 0, x.may(0, 0));
            Check.due("no bite of it", 0, x.may(0, 1));
            EatenToll y = Check.told("dish b 1 0 9; dish c 1 0 9; dish d 1 0 9; dish a 1 0 " + store + "; man m 9 0 0 0; law 0 b = 1; law 0 a = 3;");
            Check.due("3 bites of the last dish, STORE " + store, store < 3 ? 4 : 0, y.may(0, 0));
        }
        EatenToll none = Check.told("dish a 1 0 0; man m 9 0 0 0; law 0 a = 1; law 1 a = 0;");
        Check.due("1 bite, STORE 0", 4, none.may(0, 0));
        Check.due("0 bites, STORE 0", 0, none.may(0, 1));
    }

    private static void bulk() {
        Check.says("5 if all BULK goes into his room:");
        for (int room = 6; room <= 8; room++) {
            EatenToll x = Check.told("dish a 2 0 9; dish b 3 0 9; man m " + (room + 5) + " 5 0 0; law 0 a = 2; law 0 b = 1;");
            Check.due("BULK 7, room " + room, room < 7 ? 5 : 0, x.may(0, 0));
        }
        EatenToll none = Check.told("dish a 1 0 9; man m 9 9 0 0; man n 0 0 0 0; man o 99 98 0 0; law 0 a = 1;");
        Check.due("BULK 1, room 0", 5, none.may(0, 0));
        Check.due("BULK 0, room 0", 0, none.may(0, 1));
        Check.due("BULK 1, no belly", 5, none.may(1, 0));
        Check.due("BULK 0, no belly", 0, none.may(1, 1));
        Check.due("BULK 1, room 1", 0, none.may(2, 0));
    }

    /** Every set of reasons: the least of them is told. */
    private static void firstReason() {
        Check.says("the first of these that is not so tells why.");
        for (int reasons = 0; reasons < 32; reasons++) {
            boolean sick = (reasons & 1) != 0;
            boolean fast = (reasons & 2) != 0;
            boolean hates = (reasons & 4) != 0;
            boolean store = (reasons & 8) != 0;
            boolean room = (reasons & 16) != 0;
            EatenToll x = Check.told("dish a 2 0 " + (store ? 1 : 2) + "; dish s 1 0 9; man m " + (room ? 3 : 4) + " 0 9 0"
                + (sick ? " ill s 1" : "") + (fast ? " fast 1 23" : "") + (hates ? " hates a" : "") + "; law 0 a = 2; law 1 s = 1;");
            x.pass(0, 1);
            x.later(1);
            int first = sick ? 1 : fast ? 2 : hates ? 3 : store ? 4 : room ? 5 : 0;
            Check.due("reasons " + reasons + ": may(0, 0)", first, x.may(0, 0));
            Check.due("reasons " + reasons + ": pass(0, 0)", first, x.pass(0, 0));
        }
    }

    private static void swallowsAll() {
        Check.says("He PASSES: he swallows all: FULL grows by the BULK, STORES lessen, the GATE gains each bite's GAIN;");
        for (int bites = 0; bites <= 6; bites++) {
            EatenToll x = Check.told("dish a 3 7 6; dish b 1 99 1; man m 19 0 0 0; man n 19 0 0 0; law 0 a = " + bites + "; law 0 b = 1;");
            Check.due("pass(0, 0)", 0, x.pass(0, 0));
            Check.due("FULL", 3 * bites + 1, x.man(0, 0));
            Check.due("swallowed", bites + 1, x.man(0, 3));
            Check.due("STORE of a", 6 - bites, x.dish(0, 0));
            Check.due("STORE of b", 0, x.dish(1, 0));
            Check.due("gained(0)", 7 * bites + 99, x.gained(0));
            Check.due("gained(1)", 0, x.gained(1));
            Check.due("the other man", 0, x.man(1, 0) + x.man(1, 3) + x.man(1, 5));
        }
    }

    private static void swallowsOfFour() {
        EatenToll x = Check.told("dish a 1 1 9; dish b 2 3 9; dish c 3 5 9; dish d 4 7 9; man m 99 0 0 0; law 0 a = 1; law 0 b = 2; law 0 c = 3; law 0 d = 4;");
        x.pass(0, 0);
        Check.due("FULL", 1 + 4 + 9 + 16, x.man(0, 0));
        Check.due("swallowed", 10, x.man(0, 3));
        Check.due("gained(0)", 1 + 6 + 15 + 28, x.gained(0));
        for (int dish = 0; dish < 4; dish++) {
            Check.due("STORE of " + dish, 8 - dish, x.dish(dish, 0));
            Check.due("swallowed of " + dish, 1 + dish, x.dish(dish, 3));
        }
    }

    private static void makesIll() {
        Check.says("of whatever DISH he swallows as many at once as make him ILL or more: he is SICK for 12 hours.");
        for (int ill = 1; ill <= 6; ill++) {
            for (int bites = Math.max(0, ill - 1); bites <= Math.min(6, ill + 1); bites++) {
                for (int dish = 0; dish < 4; dish++) {
                    String name = String.valueOf("abcd".charAt(dish));
                    EatenToll x = Check.told("dish a 1 0 9; dish b 1 0 9; dish c 1 0 9; dish d 1 0 9; man m 99 0 0 0 ill " + name + " " + ill
                        + "; man n 99 0 0 0; law 0 " + name + " = " + bites + ";");
                    x.pass(0, 0);
                    x.pass(1, 0);
                    Check.due("ill " + ill + ", bites " + bites, bites >= ill ? 12 : 0, x.man(0, 2));
                    Check.due("one whom nothing makes ILL", 0, x.man(1, 2));
                }
            }
        }
        EatenToll sum = Check.told("dish a 1 0 9; dish b 1 0 9; man m 99 0 0 0 ill a 3 ill b 3; law 0 a = 2; law 0 b = 2; law 1 a = 2; law 1 b = 3;");
        sum.pass(0, 0);
        sum.pass(0, 0);
        Check.due("two and two, and not at once", 0, sum.man(0, 2));
        sum.pass(0, 1);
        Check.due("three of one", 12, sum.man(0, 2));
    }

    private static void sickForTwelve() {
        EatenToll x = Check.told("dish a 1 0 9; man m 9 0 0 0 ill a 1; law 0 a = 1;");
        x.later(20);
        x.pass(0, 0);
        for (int hours = 12; hours >= 0; hours--) {
            Check.due("hours he is SICK", hours, x.man(0, 2));
            Check.due("may(0, 0)", hours > 0 ? 1 : 0, x.may(0, 0));
            x.later(1);
        }
        Check.due("not below 0", 0, x.man(0, 2));
        x.pass(0, 0);
        x.later(12);
        x.pass(0, 0);
        Check.due("12 hours anew", 12, x.man(0, 2));
    }

    private static void empties() {
        Check.says("An HOUR goes by: all are as much less FULL as they EMPTY (0 at least), SICK ones one hour less;");
        EatenToll x = Check.told("man p 9 2 3 0; man q 9 3 3 0; man r 9 4 3 0; man s 9 9 0 0; man t 9 0 9 0; man u 99 99 9 0; man v 9 1 1 0;");
        int[][] due = {{0, 0, 1, 9, 0, 90, 0}, {0, 0, 0, 9, 0, 81, 0}};
        for (int hour = 0; hour < 2; hour++) {
            x.later(1);
            for (int man = 0; man < 7; man++) {
                Check.due("FULL of " + man, due[hour][man], x.man(man, 0));
            }
        }
        x.later(8);
        Check.due("FULL of the sixth, 10 hours", 9, x.man(5, 0));
        x.later(1);
        Check.due("FULL of the sixth, 11 hours", 0, x.man(5, 0));
        x.later(240);
        Check.due("FULL of one who does not empty", 9, x.man(3, 0));
    }

    private static void nextDay() {
        Check.says("behind hour 23 it is hour 0 of the next day: none has passed that day.");
        EatenToll x = Check.told("man m 9 0 0 0; man n 9 0 0 0;");
        x.pass(0, 0);
        x.pass(1, 1);
        int[][] due = {{22, 22, 0, 1}, {1, 23, 0, 1}, {1, 0, 1, 0}, {1, 1, 1, 0}, {22, 23, 1, 0}, {1, 0, 2, 0}};
        for (int[] d : due) {
            x.later(d[0]);
            Check.due("hour", d[1], x.count(5));
            Check.due("day", d[2], x.count(6));
            Check.due("man 0 has passed", d[3], x.man(0, 5));
            Check.due("man 1 has passed", d[3], x.man(1, 5));
            Check.due("passed by gate 0", d[3], x.count(11));
            Check.due("passed by gate 1", d[3], x.count(12));
        }
        EatenToll eight = Check.told("man a 9 9 1 0; man b 9 9 1 0; man c 9 9 1 0; man d 9 9 1 0; man e 9 9 1 0; man f 9 9 1 0; man g 9 9 1 0; man h 9 9 1 0;");
        for (int man = 0; man < 8; man++) {
            eight.pass(man, man % 2);
        }
        for (int hour = 22; hour <= 24; hour++) {
            eight.later(hour == 22 ? 22 : 1);
            for (int man = 0; man < 8; man++) {
                Check.due("man " + man + " has passed, hour " + hour, hour < 24 ? 1 : 0, eight.man(man, 5));
            }
        }
    }
}
