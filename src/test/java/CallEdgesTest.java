/** The edges of the calls themselves: promises 1 to 13 and 27. */
public final class CallEdgesTest {
    private static final int BLANKS = 0x20202020;
    private static final int[] NO_MEN = {-1, 2, 3, 8, Integer.MIN_VALUE, Integer.MAX_VALUE};
    private static final int[] NO_GATES = {-1, 2, 3, Integer.MIN_VALUE, Integer.MAX_VALUE};

    public static void main(String[] args) {
        newObject();
        feedOrder();
        feedRoom();
        back();
        backTakesTheLast();
        read();
        readEmpties();
        place();
        man();
        dish();
        toll();
        may();
        pass();
        passRefused();
        later();
        laterZero();
        undo();
        lastThirty();
        when();
        whenNothingHappens();
        whenNoSuch();
        gained();
        Check.end();
    }

    private static void newObject() {
        Check.says("Nothing is told.");
        EatenToll x = new EatenToll();
        for (int what = 0; what <= 12; what++) {
            Check.due("count(" + what + ")", 0, x.count(what));
        }
        Check.due("man(0, 0)", -1, x.man(0, 0));
        Check.due("dish(0, 0)", -1, x.dish(0, 0));
        Check.due("toll(0, 0, -1)", -1, x.toll(0, 0, -1));
        Check.due("may(0, 0)", -1, x.may(0, 0));
        Check.due("pass(0, 0)", -1, x.pass(0, 0));
        Check.due("when(0, 0)", -1, x.when(0, 0));
        Check.due("hire(0, 0, 0)", -1, x.hire(0, 0, 0));
        Check.due("tongue(0, 0)", -1, x.tongue(0, 0));
        Check.due("together(0, 1, 0)", -1, x.together(0, 1, 0));
        Check.due("split(0, 1, 0)", -1, x.split(0, 1, 0));
        Check.due("soonest(0, 0)", 0, x.soonest(0, 0));
        Check.due("soonest(1, 0)", -1, x.soonest(1, 0));
        Check.due("least(0, 0, false)", 0, x.least(0, 0, false));
        Check.due("least(1, 0, true)", -1, x.least(1, 0, true));
        Check.due("crowd(0, 0, 0)", 0, x.crowd(0, 0, 0));
        Check.due("crowd(1, 0, 0)", -1, x.crowd(1, 0, 0));
        Check.due("hourOf(0, 0, false)", -1, x.hourOf(0, 0, false));
        Check.due("best(0, -1)", 0, x.best(0, -1));
        Check.due("best(0, 0)", -1, x.best(0, 0));
        Check.due("best(1, -1)", -1, x.best(1, -1));
        for (int what = 0; what < 4; what++) {
            Check.due("day(" + what + ")", 0, x.day(what));
        }
        Check.due("net(0)", -1000000, x.net(0));
        Check.due("cleared()", 0, x.cleared());
        Check.due("gained(0)", 0, x.gained(0));
        Check.due("gained(1)", 0, x.gained(1));
        Check.due("judge(0)", -2, x.judge(0));
        Check.due("odd(0)", -2, x.odd(0));
        Check.due("undo()", false, x.undo());
        Check.due("restore(0)", false, x.restore(0));
        Check.due("place()", -1, x.place());
        Check.due("burn()", 0, x.burn());
    }

    /** Each of the twenty bytes in turn is none of a token: it is the fault, or the word it stands in is. */
    private static void feedOrder() {
        Check.says("Twenty bytes, the highest of a first, come behind the tape: how many it has.");
        int[] fours = {0x64697368, 0x20616263, 0x64656667, 0x68203120, 0x3220333b};
        for (int place = 0; place < 20; place++) {
            int[] f = fours.clone();
            int shift = 24 - 8 * (place % 4);
            f[place / 4] = f[place / 4] & ~(255 << shift) | '#' << shift;
            EatenToll x = new EatenToll();
            Check.due("feed of dish abcdefgh 1 2 3; with a # at " + place, 20, x.feed(f[0], f[1], f[2], f[3], f[4]));
            Check.due("read()", 1, x.read());
            Check.due("place()", place < 4 ? 0 : place, x.place());
        }
        EatenToll y = new EatenToll();
        Check.due("feed of dish abcdefgh 1 2 3;", 20, y.feed(fours[0], fours[1], fours[2], fours[3], fours[4]));
        Check.due("feed of 20 blanks", 40, y.feed(BLANKS, BLANKS, BLANKS, BLANKS, BLANKS));
        Check.due("feed of bytes from 128 on", 60, y.feed(-1, 0x80808080, BLANKS, BLANKS, BLANKS));
        Check.due("read()", 1, y.read());
        Check.due("they came behind", 40, y.place());
        y.feed(fours[0], fours[1], fours[2], fours[3], fours[4]);
        Check.due("read()", 0, y.read());
        Check.due("dish(0, 0)", 3, y.dish(0, 0));
    }

    private static void feedRoom() {
        Check.says("NONE, and nothing comes, if it would have more than 2,000.");
        for (int less = 0; less <= 22; less++) {
            EatenToll x = new EatenToll();
            for (int i = 1; i <= 100; i++) {
                Check.due("feed no. " + i, 20 * i, x.feed(BLANKS, BLANKS, BLANKS, BLANKS, BLANKS));
            }
            x.back(less);
            int due = less < 20 ? -1 : 2020 - less;
            Check.due("feed to a tape of " + (2000 - less), due, x.feed(0x23232323, 0, 0, 0, 0));
            Check.due("count(8)", less < 20 ? 2000 - less : due, x.count(8));
            Check.due("read()", less < 20 ? 0 : 1, x.read());
        }
    }

    private static void back() {
        Check.says("NONE, and nothing goes, if it has not so many, or n is below 0.");
        EatenToll x = new EatenToll();
        Check.due("back(0) of none", 0, x.back(0));
        Check.due("back(1) of none", -1, x.back(1));
        Check.due("back(-1) of none", -1, x.back(-1));
        x.feed(BLANKS, BLANKS, BLANKS, BLANKS, BLANKS);
        for (int no : new int[] {-1, -2, 21, 22, 2000, Integer.MIN_VALUE, Integer.MAX_VALUE}) {
            Check.due("back(" + no + ") of 20", -1, x.back(no));
            Check.due("count(8)", 20, x.count(8));
        }
        Check.due("back(0) of 20", 20, x.back(0));
        Check.due("back(1) of 20", 19, x.back(1));
        Check.due("back(20) of 19", -1, x.back(20));
        Check.due("back(18) of 19", 1, x.back(18));
        Check.due("back(2) of 1", -1, x.back(2));
        Check.due("back(1) of 1", 0, x.back(1));
        x.feed(BLANKS, BLANKS, BLANKS, BLANKS, BLANKS);
        Check.due("back(20) of 20", 0, x.back(20));
    }

    private static void backTakesTheLast() {
        Check.says("The last n bytes of the tape go: how many it has.");
        EatenToll x = new EatenToll();
        // dish a 1 2 3;dish b
        x.feed(0x64697368, 0x20612031, 0x20322033, 0x3b646973, 0x68206220);
        Check.due("back(7)", 13, x.back(7));
        Check.due("read()", 0, x.read());
        Check.due("STORE 3", 3, x.dish(0, 0));
        x.feed(0x64697368, 0x20612031, 0x20322033, 0x3b646973, 0x68206220);
        Check.due("back(8)", 12, x.back(8));
        // 45; and blanks come behind what is left.
        x.feed(0x34353b20, BLANKS, BLANKS, BLANKS, BLANKS);
        Check.due("read()", 0, x.read());
        Check.due("STORE 345", 345, x.dish(0, 0));
        // What was taken back is not read: the text ends ahead of it, in the middle of a token.
        String[] texts = {"dish a 1 2 3@45;", "dish@es", "dish a@b", "dish @   ", "dish a 1 2 3@;", "@#"};
        for (String text : texts) {
            int end = text.indexOf('@');
            EatenToll y = new EatenToll();
            Check.put(y, text.replace("@", ""));
            Check.due("back of " + text, end, y.back(text.length() - 1 - end));
            Check.due("read() of " + text, end == 0 ? 0 : 1, y.read());
            Check.due("place() of " + text, end == 0 ? -1 : end, y.place());
        }
    }

    private static void read() {
        Check.says("The tape, which is empty then, is read: 0, or the number of its FAULT.");
        String[] texts = {"", "#", "dish a 1 1 1;".repeat(5), "dish a 1 1 1; man a 1 1 1 1;", "goes m 1;", "dish a 1 1 1000;"};
        for (int fault = 0; fault < texts.length; fault++) {
            EatenToll x = new EatenToll();
            Check.put(x, texts[fault]);
            Check.due("count(8)", texts[fault].length(), x.count(8));
            Check.due("read() of " + texts[fault], fault, x.read());
            Check.due("count(8)", 0, x.count(8));
            Check.due("back(1)", -1, x.back(1));
            Check.due("read() of an empty tape", 0, x.read());
        }
    }

    private static void readEmpties() {
        EatenToll x = Check.told("dish a 1 2 3; man m 9 0 0 0;");
        Check.due("count(1)", 1, x.count(1));
        Check.due("read() of an empty tape", 0, x.read());
        Check.due("it tells nothing, in place of the one ahead", 0, x.count(1) + x.count(0));
        x.feed(0x64697368, 0x20622039, 0x20322039, 0x3b202020, BLANKS);
        Check.due("only what came since is read", 0, x.read());
        Check.due("BULK", 9, x.dish(0, 1));
        Check.due("no second dish", -1, x.dish(1, 1));
    }

    private static void place() {
        Check.says("The byte of the latest read()'s FAULT; NONE without.");
        EatenToll x = new EatenToll();
        Check.due("ahead of any read()", -1, x.place());
        String[] texts = {"#", " #", "dish", "", "dish a 1 1 1000;", "dish a 1 1 1;"};
        int[] places = {0, 1, 4, -1, 11, -1};
        for (int i = 0; i < texts.length; i++) {
            int before = x.place();
            Check.put(x, texts[i]);
            Check.due("feed and back leave it", before, x.place());
            x.read();
            Check.due("place() of " + texts[i], places[i], x.place());
            Check.due("asked twice", places[i], x.place());
        }
        EatenToll y = new EatenToll();
        Check.put(y, " ".repeat(1999) + "#");
        y.read();
        Check.due("the last byte that can be", 1999, y.place());
        Check.put(y, " ".repeat(1996) + "dish");
        y.read();
        Check.due("the last end that can be", 2000, y.place());
    }

    private static void man() {
        Check.says("Of a MAN: what 0 FULL, 1 room, 2 for how many hours he is SICK, 3 how many bites he swallowed in all, 4 his LOAD,"
            + " 5 whether he has passed this day (0, 1). NONE for others.");
        EatenToll x = Check.told("dish a 2 3 50; man m 10 4 1 100 ill a 2; man n 99 98 0 999; law 0 a = 2; law 1 a = 1;");
        int[][] begin = {{4, 6, 0, 0, 100, 0}, {98, 1, 0, 0, 999, 0}};
        for (int man = 0; man < 2; man++) {
            for (int what = 0; what < 6; what++) {
                Check.due("man(" + man + ", " + what + ")", begin[man][what], x.man(man, what));
            }
            for (int what : new int[] {-1, 6, 7, Integer.MIN_VALUE, Integer.MAX_VALUE}) {
                Check.due("man(" + man + ", " + what + ")", -1, x.man(man, what));
            }
        }
        for (int no : NO_MEN) {
            Check.due("man(" + no + ", 0)", -1, x.man(no, 0));
            Check.due("man(" + no + ", 5)", -1, x.man(no, 5));
        }
        x.pass(0, 1);
        x.pass(0, 0);
        int[] then = {10, 0, 12, 3, 100, 1};
        for (int what = 0; what < 6; what++) {
            Check.due("behind two passes: man(0, " + what + ")", then[what], x.man(0, what));
            Check.due("the other one: man(1, " + what + ")", begin[1][what], x.man(1, what));
        }
    }

    private static void dish() {
        Check.says("Of a DISH: what 0 STORE now, 1 BULK, 2 GAIN, 3 how many bites were swallowed in all. NONE for others.");
        EatenToll x = Check.told("dish a 2 3 2; dish b 9 99 999; man m 99 0 0 0; law 0 a = 1; law 1 a = 1; law 1 b = 6;");
        int[][] begin = {{2, 2, 3, 0}, {999, 9, 99, 0}};
        int[][] then = {{0, 2, 3, 2}, {993, 9, 99, 6}};
        for (int dish = 0; dish < 2; dish++) {
            for (int what = 0; what < 4; what++) {
                Check.due("dish(" + dish + ", " + what + ")", begin[dish][what], x.dish(dish, what));
            }
            for (int what : new int[] {-1, 4, 5, Integer.MIN_VALUE, Integer.MAX_VALUE}) {
                Check.due("dish(" + dish + ", " + what + ")", -1, x.dish(dish, what));
            }
        }
        for (int no : new int[] {-1, 2, 3, 4, Integer.MIN_VALUE, Integer.MAX_VALUE}) {
            Check.due("dish(" + no + ", 0)", -1, x.dish(no, 0));
            Check.due("dish(" + no + ", 3)", -1, x.dish(no, 3));
        }
        x.pass(0, 0);
        x.pass(0, 1);
        for (int dish = 0; dish < 2; dish++) {
            for (int what = 0; what < 4; what++) {
                Check.due("behind two passes: dish(" + dish + ", " + what + ")", then[dish][what], x.dish(dish, what));
            }
        }
    }

    private static EatenToll two() {
        return Check.told("dish a 2 1 9; dish b 3 1 9; man m 12 0 0 0; man n 11 0 0 0; law 0 a = 3; law 0 b = 2; law 1 a = 0 - 1; law 1 b = 9;");
    }

    private static void toll() {
        Check.says("TOLL: bites of a DISH (NONE: all BULK); NONE: no such ones.");
        EatenToll x = two();
        int[][] due = {{0, 0, 3}, {0, 1, 2}, {0, -1, 12}, {1, 0, 0}, {1, 1, 6}, {1, -1, 18}};
        for (int man = 0; man < 2; man++) {
            for (int[] d : due) {
                Check.due("toll(" + man + ", " + d[0] + ", " + d[1] + ")", d[2], x.toll(man, d[0], d[1]));
            }
        }
        for (int dish : new int[] {-2, 2, 3, 4, Integer.MIN_VALUE, Integer.MAX_VALUE}) {
            Check.due("toll(0, 0, " + dish + ")", -1, x.toll(0, 0, dish));
        }
        for (int man : NO_MEN) {
            Check.due("toll(" + man + ", 0, 0)", -1, x.toll(man, 0, 0));
            Check.due("toll(" + man + ", 0, -1)", -1, x.toll(man, 0, -1));
        }
        for (int gate : NO_GATES) {
            Check.due("toll(0, " + gate + ", 0)", -1, x.toll(0, gate, 0));
        }
        Check.due("no DISHES: all BULK", 0, Check.told("man m 1 0 0 0;").toll(0, 0, -1));
        Check.due("no DISHES: dish 0", -1, Check.told("man m 1 0 0 0;").toll(0, 0, 0));
    }

    private static void may() {
        Check.says("0 if he MAY PASS, else why not (1 .. 5); NONE: no such ones.");
        EatenToll x = two();
        Check.due("may(0, 0)", 0, x.may(0, 0));
        Check.due("may(1, 0)", 5, x.may(1, 0));
        Check.due("may(0, 1)", 5, x.may(0, 1));
        for (int man : NO_MEN) {
            Check.due("may(" + man + ", 0)", -1, x.may(man, 0));
        }
        for (int gate : NO_GATES) {
            Check.due("may(0, " + gate + ")", -1, x.may(0, gate));
        }
    }

    private static void pass() {
        Check.says("He PASSES: 0; else why he may not, and nothing happens; NONE likewise.");
        EatenToll x = two();
        long[] before = Look.at(x);
        Check.due("pass(1, 0)", 5, x.pass(1, 0));
        Check.due("pass(0, 1)", 5, x.pass(0, 1));
        for (int man : NO_MEN) {
            Check.due("pass(" + man + ", 0)", -1, x.pass(man, 0));
        }
        for (int gate : NO_GATES) {
            Check.due("pass(0, " + gate + ")", -1, x.pass(0, gate));
        }
        Look.same("nothing happens", before, Look.at(x));
        Check.due("pass(0, 0)", 0, x.pass(0, 0));
        Check.due("man(0, 1)", 0, x.man(0, 1));
        Check.due("count(9)", 1, x.count(9));
    }

    /** Each reason in turn. */
    private static void passRefused() {
        String[] men = {"man m 9 0 9 0 ill s 1", "man m 9 0 9 0 fast 1 1", "man m 9 0 9 0 hates a", "man m 9 0 9 0", "man m 3 0 9 0"};
        for (int why = 1; why <= 5; why++) {
            EatenToll x = Check.told("dish a 2 1 " + (why == 4 ? 1 : 2) + "; dish s 1 1 9; " + men[why - 1] + "; law 0 a = 2; law 1 s = 1;");
            Check.due("pass(0, 1)", 0, x.pass(0, 1));
            x.later(1);
            long[] before = Look.at(x);
            Check.due("pass(0, 0)", why, x.pass(0, 0));
            Look.same("nothing happens", before, Look.at(x));
        }
    }

    private static void later() {
        Check.says("n hours (0 .. 240; 0 is no thing done) go by: the hour; NONE, and nothing happens: no such n.");
        EatenToll x = Check.told("dish a 1 1 9; man m 99 99 0 0; man n 99 90 1 0;");
        long[] before = Look.at(x);
        for (int no : new int[] {-1, -2, 241, 242, Integer.MIN_VALUE, Integer.MAX_VALUE}) {
            Check.due("later(" + no + ")", -1, x.later(no));
        }
        Look.same("nothing happens", before, Look.at(x));
        int[][] due = {{1, 1, 0}, {22, 23, 0}, {1, 0, 1}, {239, 23, 10}, {1, 0, 11}, {240, 0, 21}, {23, 23, 21}, {2, 1, 22}};
        for (int i = 0; i < due.length; i++) {
            Check.due("later(" + due[i][0] + ")", due[i][1], x.later(due[i][0]));
            Check.due("the hour", due[i][1], x.count(5));
            Check.due("the day", due[i][2], x.count(6));
            Check.due("hours gone by at once are one thing done", i + 1, x.count(9));
        }
        EatenToll y = Check.told("man m 99 99 1 0;");
        y.later(98);
        Check.due("98 hours", 1, y.man(0, 0));
        y.later(1);
        Check.due("99 hours", 0, y.man(0, 0));
        y.later(1);
        Check.due("100 hours", 0, y.man(0, 0));
    }

    private static void laterZero() {
        EatenToll x = Check.told("dish a 1 1 9; man m 99 99 1 0; man n 99 90 1 0;");
        x.later(30);
        long[] before = Look.at(x);
        Check.due("later(0)", 6, x.later(0));
        Look.same("later(0) is no thing done", before, Look.at(x));
        Check.due("undo()", true, x.undo());
        Check.due("the hour", 0, x.count(5));
    }

    private static void undo() {
        Check.says("The last thing done (a pass, hours gone by at once) is undone: true; false: there is none (the last 30 can be).");
        EatenToll x = Check.told("dish a 1 2 9; man m 20 9 1 0 ill a 2; man n 20 3 2 0; law 0 a = 2; law 1 a = 1;");
        Check.due("nothing is done", false, x.undo());
        long[] begin = Look.at(x);
        x.pass(0, 0);
        long[] passed = Look.at(x);
        x.later(25);
        Check.due("hours at once", true, x.undo());
        Look.same("behind the pass", passed, Look.at(x));
        Check.due("the pass", true, x.undo());
        Look.same("as at the begin", begin, Look.at(x));
        Check.due("nothing more", false, x.undo());
        Look.same("false, and nothing happens", begin, Look.at(x));
    }

    private static void lastThirty() {
        for (int things = 29; things <= 32; things++) {
            EatenToll x = Check.told("dish a 1 0 99; man m 99 0 0 0; law 0 a = 1;");
            for (int i = 0; i < things; i++) {
                Check.due("thing " + i, i % 2 == 0 ? 0 : (i + 1) / 2 % 24, i % 2 == 0 ? x.pass(0, 0) : x.later(1));
            }
            int can = Math.min(30, things);
            Check.due("things that can be undone of " + things, can, x.count(9));
            for (int i = 0; i < can; i++) {
                Check.due("undo no. " + i, true, x.undo());
                int left = things - 1 - i;
                Check.due("count(9)", can - 1 - i, x.count(9));
                Check.due("passes that are left", (left + 1) / 2, x.man(0, 3));
                Check.due("hours that are left", left / 2, x.count(5));
            }
            Check.due("one more", false, x.undo());
            int stays = things - can;
            Check.due("passes that stay", (stays + 1) / 2, x.man(0, 3));
            Check.due("hours that stay", stays / 2, x.count(5));
        }
        EatenToll y = Check.told("man m 9 0 0 0;");
        for (int i = 0; i < 100; i++) {
            y.later(1);
        }
        for (int i = 0; i < 30; i++) {
            y.undo();
        }
        Check.due("70 hours", 22, y.count(5));
        Check.due("70 hours", 2, y.count(6));
        Check.due("no more", false, y.undo());
    }

    private static void when() {
        Check.says("In how many hours from now (0 .. 23; nothing happens, none passes) he MAY PASS for the first time; -2: not;");
        // The tolls have bulk 22, 23 and 24: so many hours till he has room for it.
        for (int bulk = 22; bulk <= 24; bulk++) {
            EatenToll x = Check.told("dish a 4 1 9; dish b 1 1 9; man m 24 24 1 0; law 0 a = 5; law 0 b = " + (bulk - 20) + "; law 1 b = 1;");
            Check.due("room " + bulk + " in " + bulk + " hours", bulk < 24 ? bulk : -2, x.when(0, 0));
            Check.due("room 1 in an hour", 1, x.when(0, 1));
            x.later(1);
            Check.due("an hour later", bulk - 1, x.when(0, 0));
            Check.due("an hour later", 0, x.when(0, 1));
        }
        for (int now = 0; now <= 3; now++) {
            EatenToll x = Check.told("dish a 1 1 9; man m 9 0 0 0 fast 1 23; man n 9 0 0 0 fast 0 23; man o 9 0 0 0 fast 0 22; law 0 a = 1;");
            x.later(now);
            Check.due("a FAST till hour 0, now " + now, (24 - now) % 24, x.when(0, 0));
            Check.due("a FAST at all hours, now " + now, -2, x.when(1, 0));
            Check.due("a FAST till hour 23, now " + now, 23 - now, x.when(2, 0));
            Check.due("no bite, now " + now, 0, x.when(1, 1));
        }
        EatenToll sick = Check.told("dish a 1 1 9; man m 9 0 0 0 ill a 1; law 0 a = 1;");
        Check.due("not SICK", 0, sick.when(0, 0));
        sick.pass(0, 0);
        Check.due("SICK for 12 hours", 12, sick.when(0, 0));
        sick.later(11);
        Check.due("SICK for an hour", 1, sick.when(0, 0));
        sick.later(1);
        Check.due("SICK no more", 0, sick.when(0, 0));
    }

    private static void whenNothingHappens() {
        EatenToll x = Check.told("dish a 1 1 3; man m 9 0 0 0; man n 1 0 0 0; law 0 a = 1 + ahead; law 1 a = 4;");
        x.later(20);
        x.pass(0, 0);
        long[] before = Look.at(x);
        Check.due("behind hour 23 none is ahead", 4, x.when(1, 0));
        Check.due("STORES stay as they are", -2, x.when(0, 1));
        Look.same("nothing happens", before, Look.at(x));
    }

    private static void whenNoSuch() {
        Check.says("he MAY PASS for the first time; -2: not; NONE: no such ones.");
        EatenToll x = two();
        for (int man : NO_MEN) {
            Check.due("when(" + man + ", 0)", -1, x.when(man, 0));
        }
        for (int gate : NO_GATES) {
            Check.due("when(0, " + gate + ")", -1, x.when(0, gate));
        }
    }

    private static void gained() {
        Check.says("What a GATE has gained in all; NONE: no such one.");
        EatenToll x = Check.told("dish a 1 99 9; man m 99 0 0 0; law 0 a = 1; law 1 a = 2;");
        x.pass(0, 0);
        x.later(24);
        x.pass(0, 0);
        x.pass(0, 1);
        Check.due("gained(0), in two days", 198, x.gained(0));
        Check.due("gained(1)", 198, x.gained(1));
        x.undo();
        Check.due("gained(1), undone", 0, x.gained(1));
        for (int gate : NO_GATES) {
            Check.due("gained(" + gate + ")", -1, x.gained(gate));
        }
    }
}
