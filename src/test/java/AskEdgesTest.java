/** The edges of the calls themselves: promises 14 to 17, 19 to 26 and 33 to 35. */
public final class AskEdgesTest {
    private static final int[] NO_MEN = {-1, 3, 4, 8, Integer.MIN_VALUE, Integer.MAX_VALUE};
    private static final int[] NO_GATES = {-1, 2, 3, Integer.MIN_VALUE, Integer.MAX_VALUE};
    private static final int[] NO_SETS = {-1, 8, 9, 255, 256, Integer.MIN_VALUE, Integer.MAX_VALUE};

    public static void main(String[] args) {
        hire();
        tongue();
        together();
        split();
        soonest();
        setsOfHowMany();
        least();
        crowd();
        hourOf();
        best();
        asksChangeNothing();
        day();
        net();
        cleared();
        hold();
        holdChangesNothing();
        restore();
        restoreRefused();
        whatASlotHolds();
        count();
        countsOfSlots();
        Check.end();
    }

    /** Three men: one with room, one without, one who goes hungry; two bites at gate 0, six at gate 1. */
    private static EatenToll three() {
        return Check.told("dish a 2 3 30; dish b 1 1 30; man m 8 0 0 0; man n 3 0 0 0; man o 0 0 0 0; law 0 a = 2; law 1 a = 6;"
            + "belly p 4 5; belly q 12 9;");
    }

    private static void hire() {
        Check.says("HIRE: what 0 the FEE, 1 the BELLIES (bits); -2: it can't be; NONE: no such ones.");
        EatenToll x = three();
        int[][] due = {{0, 0, 0, 0}, {1, 0, 5, 1}, {2, 0, 5, 1}, {0, 1, 5, 1}, {1, 1, 9, 2}, {2, 1, 9, 2}};
        for (int[] d : due) {
            Check.due("hire(" + d[0] + ", " + d[1] + ", 0)", d[2], x.hire(d[0], d[1], 0));
            Check.due("hire(" + d[0] + ", " + d[1] + ", 1)", d[3], x.hire(d[0], d[1], 1));
        }
        EatenToll cannot = Check.told("dish a 2 3 30; man m 8 0 0 0; law 0 a = 6; belly p 3 5;");
        Check.due("it can't be: hire(0, 0, 0)", -2, cannot.hire(0, 0, 0));
        Check.due("it can't be: hire(0, 0, 1)", -2, cannot.hire(0, 0, 1));
        for (int what : new int[] {-1, 2, 3, Integer.MIN_VALUE, Integer.MAX_VALUE}) {
            Check.due("hire(0, 0, " + what + ")", -1, x.hire(0, 0, what));
            Check.due("it can't be: hire(0, 0, " + what + ")", -1, cannot.hire(0, 0, what));
        }
        for (int man : NO_MEN) {
            Check.due("hire(" + man + ", 0, 0)", -1, x.hire(man, 0, 0));
            Check.due("hire(" + man + ", 0, 1)", -1, x.hire(man, 0, 1));
        }
        for (int gate : NO_GATES) {
            Check.due("hire(0, " + gate + ", 0)", -1, x.hire(0, gate, 0));
        }
    }

    private static void tongue() {
        Check.says("TONGUE; -2: a STORE has not enough; NONE: no such ones.");
        EatenToll x = three();
        int[][] due = {{0, 0, 2}, {1, 1, 5}, {2, 2, 6}};
        for (int[] d : due) {
            Check.due("tongue(" + d[0] + ", 0)", d[1], x.tongue(d[0], 0));
            Check.due("tongue(" + d[0] + ", 1)", d[2], x.tongue(d[0], 1));
        }
        for (int man : NO_MEN) {
            Check.due("tongue(" + man + ", 0)", -1, x.tongue(man, 0));
        }
        for (int gate : NO_GATES) {
            Check.due("tongue(0, " + gate + ")", -1, x.tongue(0, gate));
        }
    }

    private static void together() {
        Check.says("TOGETHER; NONE: no such ones, one and the same.");
        EatenToll x = three();
        int[][] due = {{0, 1, 1}, {0, 2, 1}, {1, 2, 0}, {1, 0, 1}, {2, 0, 1}, {2, 1, 0}, {0, 0, -1}, {1, 1, -1}, {2, 2, -1}};
        for (int[] d : due) {
            Check.due("together(" + d[0] + ", " + d[1] + ", 0)", d[2], x.together(d[0], d[1], 0));
        }
        for (int man : NO_MEN) {
            Check.due("together(" + man + ", 0, 0)", -1, x.together(man, 0, 0));
            Check.due("together(0, " + man + ", 0)", -1, x.together(0, man, 0));
            Check.due("together(" + man + ", " + man + ", 0)", -1, x.together(man, man, 0));
        }
        for (int gate : NO_GATES) {
            Check.due("together(0, 1, " + gate + ")", -1, x.together(0, 1, gate));
        }
    }

    private static void split() {
        Check.says("SPLIT; -2: they can't; NONE likewise.");
        EatenToll x = three();
        int[][] due = {{0, 1, 3}, {0, 2, 4}, {1, 2, -2}, {1, 0, 0}, {2, 0, 0}, {2, 1, -2}, {0, 0, -1}, {1, 1, -1}, {2, 2, -1}};
        for (int[] d : due) {
            Check.due("split(" + d[0] + ", " + d[1] + ", 0)", d[2], x.split(d[0], d[1], 0));
        }
        for (int man : NO_MEN) {
            Check.due("split(" + man + ", 0, 0)", -1, x.split(man, 0, 0));
            Check.due("split(0, " + man + ", 0)", -1, x.split(0, man, 0));
            Check.due("split(" + man + ", " + man + ", 0)", -1, x.split(man, man, 0));
        }
        for (int gate : NO_GATES) {
            Check.due("split(0, 1, " + gate + ")", -1, x.split(0, 1, gate));
        }
    }

    private static void soonest() {
        Check.says("SOONEST: the hour; -2: not this day; NONE: no such set (bits), GATE. (Of none: the hour now.)");
        EatenToll x = three();
        for (int hour : new int[] {0, 1, 22, 23, 0}) {
            x.later((hour - x.count(5) + 24) % 24);
            Check.due("of none, at hour " + hour, hour, x.soonest(0, 0));
            Check.due("of none, at hour " + hour, hour, x.soonest(0, 1));
            Check.due("of one, at hour " + hour, hour, x.soonest(1, 0));
            Check.due("of all, at hour " + hour, -2, x.soonest(7, 0));
        }
        for (int set : NO_SETS) {
            Check.due("soonest(" + set + ", 0)", -1, x.soonest(set, 0));
        }
        for (int gate : NO_GATES) {
            Check.due("soonest(0, " + gate + ")", -1, x.soonest(0, gate));
            Check.due("soonest(1, " + gate + ")", -1, x.soonest(1, gate));
        }
    }

    /** A set is one if it has bits of MEN alone: below 1, 2, 4 .. 256. */
    private static void setsOfHowMany() {
        StringBuilder text = new StringBuilder("dish a 1 1 99;");
        for (int men = 0; men <= 8; men++) {
            EatenToll x = Check.told(text.toString());
            int all = (1 << men) - 1;
            Check.due(men + " MEN: soonest of all", 0, x.soonest(all, 0));
            Check.due(men + " MEN: least of all", 0, x.least(all, 0, false));
            Check.due(men + " MEN: crowd of all", all, x.crowd(all, 0, 1));
            Check.due(men + " MEN: best of all", 6 * men, x.best(all, -1));
            Check.due(men + " MEN: soonest of one more", -1, x.soonest(all + 1, 0));
            Check.due(men + " MEN: least of one more", -1, x.least(all + 1, 0, true));
            Check.due(men + " MEN: crowd of one more", -1, x.crowd(all + 1, 0, 0));
            Check.due(men + " MEN: best of one more", -1, x.best(all + 1, -1));
            text.append("man m").append((char) ('a' + men)).append(" 9 0 0 0;");
        }
    }

    private static void least() {
        Check.says("LEAST (gain: MOST GAIN); -2: not this day; NONE likewise.");
        EatenToll x = three();
        int[][] due = {{0, 0, 0}, {1, 4, 6}, {2, -2, -2}, {4, -2, -2}, {3, -2, -2}, {7, -2, -2}};
        for (int[] d : due) {
            Check.due("least(" + d[0] + ", 0, false)", d[1], x.least(d[0], 0, false));
            Check.due("least(" + d[0] + ", 0, true)", d[2], x.least(d[0], 0, true));
        }
        for (int set : NO_SETS) {
            Check.due("least(" + set + ", 0, false)", -1, x.least(set, 0, false));
            Check.due("least(" + set + ", 0, true)", -1, x.least(set, 0, true));
        }
        for (int gate : NO_GATES) {
            Check.due("least(0, " + gate + ", false)", -1, x.least(0, gate, false));
            Check.due("least(1, " + gate + ", true)", -1, x.least(1, gate, true));
        }
    }

    private static void crowd() {
        Check.says("CROWD: what 0 how many, 1 the MEN (bits); NONE: no such ones.");
        EatenToll x = three();
        int[][] due = {{0, 0, 0}, {1, 1, 1}, {2, 0, 0}, {6, 0, 0}, {7, 1, 1}};
        for (int[] d : due) {
            Check.due("crowd(" + d[0] + ", 0, 0)", d[1], x.crowd(d[0], 0, 0));
            Check.due("crowd(" + d[0] + ", 0, 1)", d[2], x.crowd(d[0], 0, 1));
        }
        for (int what : new int[] {-1, 2, 3, Integer.MIN_VALUE, Integer.MAX_VALUE}) {
            Check.due("crowd(1, 0, " + what + ")", -1, x.crowd(1, 0, what));
        }
        for (int set : NO_SETS) {
            Check.due("crowd(" + set + ", 0, 0)", -1, x.crowd(set, 0, 0));
            Check.due("crowd(" + set + ", 0, 1)", -1, x.crowd(set, 0, 1));
        }
        for (int gate : NO_GATES) {
            Check.due("crowd(1, " + gate + ", 0)", -1, x.crowd(1, gate, 0));
        }
    }

    private static void hourOf() {
        Check.says("HOUR (gain: with the most GAIN); -2: none; NONE: no such ones.");
        EatenToll x = Check.told("dish a 1 1 99; man m 9 0 0 0; man n 3 0 0 0; man o 0 0 0 0; law 0 a = if hour < 3 then 4 else if hour < 5 then 2 else 3;");
        int[][] due = {{0, 3, 0}, {1, 3, 5}, {2, -2, -2}};
        for (int[] d : due) {
            Check.due("hourOf(" + d[0] + ", 0, false)", d[1], x.hourOf(d[0], 0, false));
            Check.due("hourOf(" + d[0] + ", 0, true)", d[2], x.hourOf(d[0], 0, true));
            Check.due("no bite: hourOf(" + d[0] + ", 1, true)", 0, x.hourOf(d[0], 1, true));
        }
        for (int man : NO_MEN) {
            Check.due("hourOf(" + man + ", 0, false)", -1, x.hourOf(man, 0, false));
            Check.due("hourOf(" + man + ", 0, true)", -1, x.hourOf(man, 0, true));
        }
        for (int gate : NO_GATES) {
            Check.due("hourOf(0, " + gate + ", false)", -1, x.hourOf(0, gate, false));
        }
    }

    private static void best() {
        Check.says("BEST LAW: bites of a DISH (NONE: the GAIN); NONE: no such ones.");
        EatenToll x = three();
        int[][] due = {{0, 0, 0, 0}, {1, 4, 0, 12}, {2, 1, 1, 4}, {4, 0, 0, 0}, {7, 4, 0, 12}};
        for (int[] d : due) {
            Check.due("best(" + d[0] + ", 0)", d[1], x.best(d[0], 0));
            Check.due("best(" + d[0] + ", 1)", d[2], x.best(d[0], 1));
            Check.due("best(" + d[0] + ", -1)", d[3], x.best(d[0], -1));
        }
        for (int dish : new int[] {-2, 2, 3, 4, Integer.MIN_VALUE, Integer.MAX_VALUE}) {
            Check.due("best(1, " + dish + ")", -1, x.best(1, dish));
        }
        for (int set : NO_SETS) {
            Check.due("best(" + set + ", 0)", -1, x.best(set, 0));
            Check.due("best(" + set + ", -1)", -1, x.best(set, -1));
        }
    }

    private static void asksChangeNothing() {
        EatenToll x = three();
        x.later(20);
        x.pass(0, 0);
        long[] before = Look.at(x);
        x.hire(1, 1, 0);
        x.tongue(1, 1);
        x.together(0, 1, 1);
        x.split(1, 0, 0);
        x.odds(3, 1, 2);
        x.soonest(7, 0);
        x.least(7, 0, true);
        x.crowd(7, 1, 1);
        x.hourOf(1, 0, true);
        x.best(7, 0);
        x.day(2);
        x.judge(0);
        x.odd(0);
        x.led(0, 0, 0);
        Look.same("who asks changes nothing", before, Look.at(x));
    }

    private static void day() {
        Check.says("A DAY: what 0 GAIN of GATE 0, 1 of GATE 1, 2 MEN that have passed in it (bits), 3 how many went away. NONE for others.");
        EatenToll x = Check.told("dish a 1 3 9; man m 9 0 0 0; man n 0 0 0 0; man o 9 0 0 0 ill a 1; law 0 a = 1 + ahead; law 1 a = 2;"
            + "goes m 1; goes n 2; goes o 3; goes m 4; goes o 5;");
        // m: 1 at gate 0; n away; o: 2 at gate 0 (alike); m: 2 at gate 1; o is sick.
        int[] due = {9, 6, 5, 2};
        for (int what = 0; what < 4; what++) {
            Check.due("day(" + what + ")", due[what], x.day(what));
        }
        for (int what : new int[] {-1, 4, 5, Integer.MIN_VALUE, Integer.MAX_VALUE}) {
            Check.due("day(" + what + ")", -1, x.day(what));
        }
    }

    private static void net() {
        Check.says("NET; -1000000: no such one.");
        EatenToll x = Check.told("man m 9 0 0 0; man n 9 0 0 0; man o 9 0 0 0; owe m o 1; owe n o 1;");
        int[] due = {-1, -1, 2};
        for (int man = 0; man < 3; man++) {
            Check.due("net(" + man + ")", due[man], x.net(man));
        }
        for (int man : NO_MEN) {
            Check.due("net(" + man + ")", -1000000, x.net(man));
        }
    }

    private static void cleared() {
        Check.says("CLEARED: how many hands.");
        Check.due("no debts", 0, Check.told("man m 9 0 0 0;").cleared());
        Check.due("one debt", 1, Check.told("man m 9 0 0 0; man n 9 0 0 0; owe m n 99;").cleared());
        Check.due("two of one", 2, Check.told("man m 9 0 0 0; man n 9 0 0 0; man o 9 0 0 0; owe m n 1; owe m o 1;").cleared());
    }

    private static EatenToll lived() {
        EatenToll x = Check.told("dish a 2 3 20; dish b 1 0 9; man m 30 9 2 0 ill a 3; man n 30 9 2 0; law 0 a = 3; law 1 a = 2;");
        x.later(26);
        x.pass(0, 0);
        x.pass(1, 1);
        return x;
    }

    private static void hold() {
        Check.says("MEN, STORES, hour, day, gains are held in a SLOT (0 .. 2): true; false: no such one.");
        EatenToll x = lived();
        for (int slot : new int[] {-1, 3, 4, 31, 32, Integer.MIN_VALUE, Integer.MAX_VALUE}) {
            Check.due("hold(" + slot + ")", false, x.hold(slot));
            Check.due("count(10)", 0, x.count(10));
        }
        for (int slot = 0; slot < 3; slot++) {
            Check.due("hold(" + slot + ")", true, x.hold(slot));
            Check.due("count(10)", slot + 1, x.count(10));
        }
        Check.due("hold(1) anew", true, x.hold(1));
        Check.due("count(10)", 3, x.count(10));
    }

    private static void holdChangesNothing() {
        EatenToll x = lived();
        x.hold(0);
        long[] before = Look.at(x);
        x.hold(0);
        x.hold(-1);
        x.hold(3);
        Look.same("hold is no thing done", before, Look.at(x));
        Check.due("undo()", true, x.undo());
        Check.due("count(10)", 1, x.count(10));
    }

    private static void restore() {
        Check.says("They go on from what a SLOT holds (that stays there; nothing can be undone then): true;");
        EatenToll x = lived();
        for (int slot = 0; slot < 3; slot++) {
            x.hold(slot);
            x.later(1);
        }
        for (int slot : new int[] {2, 0, 1, 1, 0, 2}) {
            x.later(5);
            x.pass(1, 0);
            Check.due("restore(" + slot + ")", true, x.restore(slot));
            Check.due("the hour", 2 + slot, x.count(5));
            Check.due("FULL", 4 - 2 * slot, x.man(1, 0));
            Check.due("swallowed", 2, x.man(1, 3));
            Check.due("things that can be undone", 0, x.count(9));
            Check.due("undo()", false, x.undo());
            Check.due("SLOTS that hold something", 3, x.count(10));
        }
        x.later(1);
        Check.due("what is done then can be", true, x.undo());
        Check.due("but nothing else", false, x.undo());
        x.restore(0);
        x.later(7);
        x.hold(0);
        x.later(7);
        x.restore(0);
        Check.due("held anew", 9, x.count(5));
    }

    private static void restoreRefused() {
        Check.says("false, and nothing happens: no such one, nothing is held.");
        EatenToll x = lived();
        x.hold(1);
        x.later(1);
        long[] before = Look.at(x);
        for (int slot : new int[] {-1, 0, 2, 3, 4, 32, 33, Integer.MIN_VALUE, Integer.MAX_VALUE}) {
            Check.due("restore(" + slot + ")", false, x.restore(slot));
        }
        Look.same("nothing happens", before, Look.at(x));
        Check.due("restore(1)", true, x.restore(1));
        Check.due("the hour", 2, x.count(5));
    }

    private static void whatASlotHolds() {
        EatenToll x = lived();
        x.hold(2);
        int[] man = {6, 24, 12, 3, 0, 1};
        x.later(40);
        x.pass(0, 1);
        x.enter(0, 0, 3);
        x.feed(0, 0, 0, 0, 0);
        x.restore(2);
        for (int what = 0; what < 6; what++) {
            Check.due("man(0, " + what + ")", man[what], x.man(0, what));
        }
        Check.due("STORE", 15, x.dish(0, 0));
        Check.due("swallowed", 5, x.dish(0, 3));
        Check.due("gained(0)", 9, x.gained(0));
        Check.due("gained(1)", 6, x.gained(1));
        Check.due("the hour", 2, x.count(5));
        Check.due("the day", 1, x.count(6));
        Check.due("passed by gate 0", 1, x.count(11));
        Check.due("passed by gate 1", 1, x.count(12));
        Check.due("the BOOK stays", 1, x.count(7));
        Check.due("the tape stays", 20, x.count(8));
    }

    private static void count() {
        Check.says("0 DISHES, 1 MEN, 2 BELLIES, 3 GOINGS, 4 DEBTS, 5 the hour, 6 the day, 7 entries, 8 bytes on the tape, 9 things that can be undone,"
            + " 10 SLOTS that hold something, 11 and 12: how many have passed this day by GATE 0, 1. NONE for others.");
        EatenToll x = Check.told("dish a 1 1 9; man m 9 0 0 0; man n 9 0 0 0; belly p 1 1; belly q 1 1; belly r 1 1;"
            + "goes m 1; goes m 2; goes m 3; goes m 4; owe m n 1; owe m n 1; owe m n 1; owe m n 1; owe m n 1; law 0 a = 1;");
        x.later(54);
        for (int i = 0; i < 7; i++) {
            x.enter(0, 0, i);
        }
        x.feed(0, 0, 0, 0, 0);
        x.back(12);
        for (int i = 0; i < 4; i++) {
            x.pass(0, 0);
            x.pass(1, 0);
            x.pass(1, 1);
        }
        x.hold(2);
        x.hold(0);
        int[] due = {1, 2, 3, 4, 5, 6, 2, 7, 8, 13, 2, 8, 4};
        for (int what = 0; what < due.length; what++) {
            Check.due("count(" + what + ")", due[what], x.count(what));
        }
        for (int what : new int[] {-1, -2, 13, 14, Integer.MIN_VALUE, Integer.MAX_VALUE}) {
            Check.due("count(" + what + ")", -1, x.count(what));
        }
    }

    private static void countsOfSlots() {
        EatenToll x = Check.told("man m 9 0 0 0;");
        int[][] due = {{2, 1}, {2, 1}, {0, 2}, {3, 2}, {1, 3}, {-1, 3}};
        for (int[] d : due) {
            x.hold(d[0]);
            Check.due("SLOTS that hold something, behind hold(" + d[0] + ")", d[1], x.count(10));
        }
        x.restore(1);
        Check.due("what a SLOT holds stays there", 3, x.count(10));
        Check.put(x, "");
        x.read();
        Check.due("behind a text", 0, x.count(10));
    }
}
