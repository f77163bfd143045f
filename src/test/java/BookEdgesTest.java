/** The edges of the book, as ==== IV of the Terms tells it, and of promises 28 to 32. */
public final class BookEdgesTest {
    public static void main(String[] args) {
        hoursOfEntries();
        risingOrder();
        thirtyAtMost();
        noSuchOnes();
        burn();
        judgedFromTheBegin();
        hoursGoBy();
        theFirstThatMayNot();
        whyNot();
        firstK();
        oddOnes();
        noneIsOdd();
        oddOfFirstK();
        led();
        ledOfEight();
        ledOfNoSuch();
        ledNotAllMay();
        Check.end();
    }

    private static EatenToll plain() {
        return Check.told("dish a 1 1 99; dish b 2 1 99; man m 99 0 0 0; man n 99 0 0 0; law 0 a = 1; law 1 b = 2;");
    }

    private static void hoursOfEntries() {
        Check.says("BOOK: entries (a MAN, a GATE, an hour of this day 0 .. 23,");
        EatenToll x = plain();
        int[][] due = {{-1, -1}, {0, 0}, {1, 1}, {22, 2}, {23, 3}, {24, -1}, {25, -1}};
        for (int[] d : due) {
            Check.due("enter(0, 0, " + d[0] + ")", d[1], x.enter(0, 0, d[0]));
        }
        Check.due("count(7)", 4, x.count(7));
    }

    private static void risingOrder() {
        Check.says("in rising order or alike),");
        EatenToll x = plain();
        int[][] due = {{5, 0}, {4, -1}, {5, 1}, {6, 2}, {5, -1}, {0, -1}, {6, 3}, {23, 4}, {22, -1}, {23, 5}};
        for (int[] d : due) {
            Check.due("enter(0, 0, " + d[0] + ")", d[1], x.enter(0, 0, d[0]));
        }
        x.burn();
        Check.due("behind burn()", 0, x.enter(0, 0, 0));
    }

    private static void thirtyAtMost() {
        Check.says("30 at most, numbered from 0 on:");
        EatenToll x = plain();
        for (int entry = 0; entry < 30; entry++) {
            Check.due("entry " + entry, entry, x.enter(entry % 2, entry / 2 % 2, 3));
        }
        long[] before = Look.at(x);
        Check.due("a 31st", -1, x.enter(0, 0, 3));
        Check.due("a 31st, later", -1, x.enter(0, 0, 23));
        Look.same("a 31st changes nothing", before, Look.at(x));
        Check.due("count(7)", 30, x.count(7));
        Check.due("led(30, -1, -1)", 16 + 14 * 2, x.led(30, -1, -1));
        Check.due("led(29, -1, -1)", 15 + 14 * 2, x.led(29, -1, -1));
    }

    private static void noSuchOnes() {
        Check.says("An entry of the BOOK: its number; NONE, and nothing happens: 30 are there, no such ones, an hour ahead of the last one's.");
        EatenToll x = plain();
        x.enter(1, 1, 7);
        long[] before = Look.at(x);
        int[][] no = {{-1, 0, 7}, {2, 0, 7}, {0, -1, 7}, {0, 2, 7}, {0, 0, 6}, {0, 0, 24}, {0, 0, -1}, {Integer.MIN_VALUE, 0, 7},
            {Integer.MAX_VALUE, 0, 7}, {0, Integer.MIN_VALUE, 7}, {0, Integer.MAX_VALUE, 7}, {0, 0, Integer.MIN_VALUE}, {0, 0, Integer.MAX_VALUE}};
        for (int[] n : no) {
            Check.due("enter(" + n[0] + ", " + n[1] + ", " + n[2] + ")", -1, x.enter(n[0], n[1], n[2]));
        }
        Look.same("nothing happens", before, Look.at(x));
        Check.due("enter(0, 0, 7)", 1, x.enter(0, 0, 7));
        Check.due("enter(1, 1, 23)", 2, x.enter(1, 1, 23));
        Check.due("no MEN", -1, new EatenToll().enter(0, 0, 0));
    }

    private static void burn() {
        Check.says("All entries go: how many there were.");
        EatenToll x = plain();
        Check.due("burn() of none", 0, x.burn());
        x.enter(0, 0, 3);
        Check.due("burn() of one", 1, x.burn());
        Check.due("burn() of none", 0, x.burn());
        Check.due("count(7)", 0, x.count(7));
        Check.due("judge(1)", -1, x.judge(1));
        for (int entry = 0; entry < 30; entry++) {
            x.enter(0, 0, 23);
        }
        Check.due("burn() of 30", 30, x.burn());
        Check.due("entries are numbered from 0 on again", 0, x.enter(0, 0, 0));
    }

    private static void judgedFromTheBegin() {
        Check.says("JUDGED from the text's begin (day 0):");
        EatenToll x = Check.told("dish a 1 1 6; man m 6 2 1 0 ill a 4; law 0 a = 4; law 1 a = if hour < 1 then 4 else 2;");
        x.pass(0, 0);
        x.later(37);
        x.enter(0, 1, 0);
        Check.due("room, store, health and hour as told", -2, x.judge(1));
        x.enter(0, 1, 11);
        Check.due("SICK", 11, x.judge(2));
        Check.due("nothing happens", 2, x.dish(0, 0));
        x.undo();
        x.undo();
        Check.due("nothing else can be undone", false, x.undo());
        Check.due("judge(2)", 11, x.judge(2));
    }

    private static void hoursGoBy() {
        Check.says("from entry to entry hours go by, each MAN of an entry PASSES:");
        for (int hour = 2; hour <= 4; hour++) {
            EatenToll x = Check.told("dish a 3 1 99; man m 6 6 1 0; man n 3 0 0 0; law 0 a = 1; law 1 a = hour - 21;");
            x.enter(0, 0, hour);
            Check.due("room 3 from hour 3 on, hour " + hour, hour < 3 ? 5 : -2, x.judge(1));
            x.enter(1, 1, 22);
            Check.due("hour 22, behind hour " + hour, hour < 3 ? 5 : -2, x.judge(2));
            x.enter(1, 1, 23);
            Check.due("hour 23", hour < 3 ? 5 : 25, x.judge(3));
        }
        EatenToll y = Check.told("dish a 1 1 99; man m 9 0 9 0; law 0 a = ahead;");
        for (int entry = 0; entry < 4; entry++) {
            y.enter(0, 0, entry);
        }
        Check.due("all may", -2, y.judge(4));
        Check.due("0 + 1 + 2 + 3 bites", 6, y.led(4, 0, 0));
    }

    private static void theFirstThatMayNot() {
        Check.says("the first that MAY not, and why; -2: all may.");
        EatenToll x = Check.told("dish a 1 1 99; man m 3 0 0 0; man n 3 0 0 0 hates a; law 0 a = 1;");
        int[] men = {0, 0, 0, 1, 0, 1};
        int[] due = {-2, -2, -2, -2, 33, 33, 33};
        for (int entry = 0; entry < 6; entry++) {
            x.enter(men[entry], 0, 0);
        }
        for (int k = 0; k <= 6; k++) {
            Check.due("judge(" + k + ")", due[k], x.judge(k));
        }
        EatenToll last = Check.told("dish a 1 1 99; man m 29 0 0 0; law 0 a = 1;");
        for (int entry = 0; entry < 30; entry++) {
            last.enter(0, 0, 0);
        }
        Check.due("29 may", -2, last.judge(29));
        Check.due("the 30th may not", 295, last.judge(30));
    }

    private static void whyNot() {
        EatenToll x = Check.told("dish a 2 1 5; man p 4 0 0 0; man q 9 0 0 0 fast 3 3; man r 9 0 0 0 ill a 2; man s 9 0 0 0 hates a; man t 3 0 0 0; law 0 a = 2;");
        int[][] entries = {{0, 0, -2}, {1, 2, -2}, {1, 3, 2}, {1, 4, -2}, {3, 0, 3}, {4, 0, 5}};
        for (int[] e : entries) {
            x.burn();
            x.enter(e[0], 0, e[1]);
            Check.due("man " + e[0] + " at hour " + e[1], e[2], x.judge(1));
        }
        x.burn();
        x.enter(2, 0, 0);
        x.enter(2, 1, 11);
        Check.due("SICK for an hour", 11, x.judge(2));
        x.burn();
        x.enter(2, 0, 0);
        x.enter(2, 1, 12);
        Check.due("SICK no more", -2, x.judge(2));
        x.enter(0, 0, 13);
        Check.due("STORE enough", -2, x.judge(3));
        x.enter(1, 0, 13);
        Check.due("STORE not enough", 34, x.judge(4));
    }

    private static void firstK() {
        Check.says("JUDGED, of the first k: 10 * the entry + why; -2: all may; NONE: no such k.");
        EatenToll x = plain();
        int[][] due = {{-1, -1}, {0, -2}, {1, -1}, {Integer.MIN_VALUE, -1}, {Integer.MAX_VALUE, -1}};
        for (int[] d : due) {
            Check.due("no entries: judge(" + d[0] + ")", d[1], x.judge(d[0]));
        }
        x.enter(0, 0, 0);
        x.enter(0, 0, 0);
        int[][] two = {{-1, -1}, {0, -2}, {1, -2}, {2, -2}, {3, -1}, {31, -1}};
        for (int[] d : two) {
            Check.due("two entries: judge(" + d[0] + ")", d[1], x.judge(d[0]));
        }
    }

    private static void oddOnes() {
        Check.says("ODD: the first entry without which all the others may;");
        for (int odd = 0; odd < 4; odd++) {
            EatenToll x = Check.told("dish a 1 1 99; man m 3 0 0 0; man n 3 0 0 0 hates a; law 0 a = 1;");
            for (int entry = 0; entry < 4; entry++) {
                x.enter(entry == odd ? 1 : 0, 0, entry);
            }
            Check.due("one who hates, entry " + odd, odd, x.odd(4));
        }
        EatenToll first = Check.told("dish a 1 1 99; man m 2 0 0 0; law 0 a = 1; law 1 a = 2;");
        first.enter(0, 0, 0);
        first.enter(0, 0, 0);
        first.enter(0, 0, 0);
        Check.due("any of three", 0, first.odd(3));
        first.burn();
        first.enter(0, 0, 0);
        first.enter(0, 1, 0);
        first.enter(0, 0, 0);
        Check.due("not the first, which leaves too many", 1, first.odd(3));
        EatenToll thirty = Check.told("dish a 1 1 99; man m 29 0 0 0; man n 3 0 0 0 hates a; law 0 a = 1;");
        for (int entry = 0; entry < 29; entry++) {
            thirty.enter(0, 0, 0);
        }
        thirty.enter(1, 0, 0);
        Check.due("the 30th", 29, thirty.odd(30));
        Check.due("all may of 29", -2, thirty.odd(29));
    }

    private static void noneIsOdd() {
        Check.says("-2: none is, or all may with it.");
        EatenToll x = Check.told("dish a 1 1 99; man m 2 0 0 0; law 0 a = 1;");
        int[] due = {-2, -2, -2, 0, -2, -2};
        for (int k = 0; k <= 5; k++) {
            Check.due("odd(" + k + "), room for 2", due[k], x.odd(k));
            x.enter(0, 0, k);
        }
    }

    private static void oddOfFirstK() {
        Check.says("ODD, of the first k; NONE: no such k.");
        EatenToll x = Check.told("dish a 1 1 99; man m 2 0 0 0; man n 1 0 0 0 hates a; law 0 a = 1;");
        int[][] none = {{-1, -1}, {0, -2}, {1, -1}, {Integer.MIN_VALUE, -1}, {Integer.MAX_VALUE, -1}};
        for (int[] d : none) {
            Check.due("no entries: odd(" + d[0] + ")", d[1], x.odd(d[0]));
        }
        x.enter(0, 0, 0);
        x.enter(1, 0, 0);
        x.enter(1, 0, 0);
        int[][] three = {{-1, -1}, {0, -2}, {1, -2}, {2, 1}, {3, -2}, {4, -1}};
        for (int[] d : three) {
            Check.due("three entries: odd(" + d[0] + ")", d[1], x.odd(d[0]));
        }
    }

    private static EatenToll four() {
        EatenToll x = plain();
        x.enter(0, 0, 0);
        x.enter(1, 1, 0);
        x.enter(0, 1, 5);
        x.enter(1, 0, 23);
        return x;
    }

    private static void led() {
        Check.says("LED: of the bites swallowed by the entries, as KNOWN by the first k (all may): how many of a DISH, by a MAN.");
        EatenToll x = four();
        // By the first k: all; of a, of b; by m, by n; m of a, m of b, n of a, n of b.
        int[][] due = {{0, 0, 0, 0, 0, 0, 0, 0, 0}, {1, 1, 0, 1, 0, 1, 0, 0, 0}, {3, 1, 2, 1, 2, 1, 0, 0, 2}, {5, 1, 4, 3, 2, 1, 2, 0, 2},
            {6, 2, 4, 3, 3, 1, 2, 1, 2}};
        int[][] asked = {{-1, -1}, {-1, 0}, {-1, 1}, {0, -1}, {1, -1}, {0, 0}, {0, 1}, {1, 0}, {1, 1}};
        for (int k = 0; k <= 4; k++) {
            for (int i = 0; i < asked.length; i++) {
                Check.due("led(" + k + ", " + asked[i][0] + ", " + asked[i][1] + ")", due[k][i], x.led(k, asked[i][0], asked[i][1]));
            }
        }
    }

    private static void ledOfEight() {
        StringBuilder text = new StringBuilder("dish a 1 1 99; dish b 1 1 99; dish c 1 1 99; dish d 1 1 99;");
        for (int man = 0; man < 8; man++) {
            text.append("man m").append((char) ('a' + man)).append(" 99 0 0 ").append(man).append(";");
        }
        EatenToll x = Check.told(text + "law 0 a = 1; law 0 b = 2 + load / 7; law 0 c = 4; law 0 d = 6 - load / 7;");
        for (int man = 0; man < 8; man++) {
            x.enter(man, 0, 3 * man);
        }
        int[] due = {1, 2, 4, 6};
        int[] last = {1, 3, 4, 5};
        for (int dish = 0; dish < 4; dish++) {
            Check.due("by the first, of " + dish, due[dish], x.led(8, 0, dish));
            Check.due("by the seventh, of " + dish, due[dish], x.led(8, 6, dish));
            Check.due("by the eighth, of " + dish, last[dish], x.led(8, 7, dish));
            Check.due("by all, of " + dish, 7 * due[dish] + last[dish], x.led(8, -1, dish));
        }
        Check.due("by all, of all", 8 * 13, x.led(8, -1, -1));
    }

    private static void ledOfNoSuch() {
        Check.says("LED: of a DISH, by a MAN (NONE each: of all), in the first k; -2: not all may; NONE: no such ones.");
        EatenToll x = four();
        int[][] no = {{-1, 0, 0}, {5, 0, 0}, {4, -2, 0}, {4, 2, 0}, {4, 0, -2}, {4, 0, 2}, {4, 8, -1}, {4, -1, 4}, {Integer.MIN_VALUE, -1, -1},
            {Integer.MAX_VALUE, -1, -1}, {4, Integer.MIN_VALUE, -1}, {4, Integer.MAX_VALUE, -1}, {4, -1, Integer.MIN_VALUE}, {4, -1, Integer.MAX_VALUE}};
        for (int[] n : no) {
            Check.due("led(" + n[0] + ", " + n[1] + ", " + n[2] + ")", -1, x.led(n[0], n[1], n[2]));
        }
        EatenToll none = new EatenToll();
        Check.due("nothing told: led(0, -1, -1)", 0, none.led(0, -1, -1));
        Check.due("nothing told: led(0, 0, -1)", -1, none.led(0, 0, -1));
        Check.due("nothing told: led(0, -1, 0)", -1, none.led(0, -1, 0));
        Check.due("nothing told: led(1, -1, -1)", -1, none.led(1, -1, -1));
    }

    private static void ledNotAllMay() {
        EatenToll x = Check.told("dish a 1 1 99; man m 2 0 0 0; law 0 a = 1;");
        int[] due = {0, 1, 2, -2, -2};
        for (int k = 0; k <= 4; k++) {
            Check.due("room for 2: led(" + k + ", 0, 0)", due[k], x.led(k, 0, 0));
            x.enter(0, 0, k);
        }
        Check.due("no such man", -1, x.led(4, 1, 0));
    }
}
