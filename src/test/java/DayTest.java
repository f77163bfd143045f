/** Promise 24: day. */
public final class DayTest {
    public static void main(String[] args) {
        gates();
        fromNowOn();
        untold();
        Check.end();
    }

    private static void days(EatenToll x, int first, int other, int men, int away) {
        int[] due = {first, other, men, away};
        for (int what = 0; what < 4; what++) {
            Check.due("day(" + what + ")", due[what], x.day(what));
        }
    }

    private static void gates() {
        EatenToll x = Check.told("dish a 2 3 20; dish b 3 5 20; man m 20 0 0 0; law 0 a = 3; law 1 b = 1; goes m 0;");
        days(x, 0, 5, 1, 0);
        EatenToll alike = Check.told("dish a 2 3 20; dish b 3 5 20; man m 20 0 0 0; law 0 a = 3; law 1 b = 2; goes m 0;");
        days(alike, 9, 0, 1, 0);
        EatenToll hater = Check.told("dish a 2 3 20; dish b 3 5 20; man m 20 0 0 0 hates b; law 0 a = 3; law 1 b = 1; goes m 0;");
        days(hater, 9, 0, 1, 0);
        EatenToll none = Check.told("dish a 2 3 20; dish b 3 5 20; man m 20 0 0 0 hates b; man n 5 0 0 0; law 0 a = 3; law 1 b = 1;"
            + "goes n 0; goes m 0; goes n 7; goes m 23;");
        days(none, 18, 5, 3, 1);
        EatenToll order = Check.told("dish a 1 3 20; man m 1 0 0 0; man n 1 0 0 0; law 0 a = 1 + ahead; law 1 a = 6; goes n 5; goes m 5; goes m 5;");
        days(order, 3, 0, 2, 2);
        EatenToll stores = Check.told("dish a 1 3 4; man m 9 0 1 0 ill a 3; man n 9 0 0 0; law 0 a = 3; law 1 a = 4 - left;"
            + "goes m 1; goes n 2; goes m 3; goes m 13; goes n 12;");
        // With 4 in store gate 1 lays nothing before anybody: all pass there, none ahead lessens it.
        days(stores, 0, 0, 3, 0);
        EatenToll ill = Check.told("dish a 1 3 9; man m 9 0 1 0 ill a 2; law 0 a = 3; law 1 a = 2; goes m 1; goes m 12; goes m 13;");
        days(ill, 0, 12, 1, 1);
    }

    private static void fromNowOn() {
        EatenToll x = Check.told("dish a 1 3 9; man m 9 0 1 0; man n 9 0 0 0; law 0 a = 2; law 1 a = 3; goes m 0; goes n 4; goes m 8; goes n 23;");
        days(x, 24, 0, 3, 0);
        x.pass(0, 0);
        x.later(4);
        days(x, 18, 0, 3, 0);
        Check.due("a trial", 4, x.count(5));
        Check.due("a trial", 7, x.dish(0, 0));
        Check.due("a trial", 6, x.gained(0));
        x.later(1);
        days(x, 12, 0, 3, 0);
        x.later(18);
        days(x, 6, 0, 2, 0);
        x.later(1);
        days(x, 18, 0, 3, 1);
    }

    private static void untold() {
        EatenToll x = new EatenToll();
        days(x, 0, 0, 0, 0);
        for (int what : new int[] {-1, 4, Integer.MIN_VALUE, Integer.MAX_VALUE}) {
            Check.due("day(" + what + ")", -1, x.day(what));
        }
    }
}
