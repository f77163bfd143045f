/** Promises 33 to 35: hold, restore, count. */
public final class SlotsTest {
    public static void main(String[] args) {
        holdAndRestore();
        noSuchSlots();
        counts();
        Check.end();
    }

    private static void holdAndRestore() {
        EatenToll x = Check.told("dish a 2 3 20; man m 30 1 2 0 ill a 3; man n 30 1 2 0; law 0 a = 3; law 1 a = 2;");
        x.later(26);
        x.pass(0, 0);
        x.pass(1, 1);
        Check.due("hold(1)", true, x.hold(1));
        Check.due("hold is no thing done", 3, x.count(9));
        x.later(50);
        x.pass(0, 1);
        Check.due("restore(1)", true, x.restore(1));
        int[] counts = {1, 2, 0, 0, 0, 2, 1, 0, 0, 0, 1, 1, 1};
        for (int what = 0; what < counts.length; what++) {
            Check.due("count(" + what + ")", counts[what], x.count(what));
        }
        int[] man = {6, 24, 12, 3, 0, 1};
        for (int what = 0; what < 6; what++) {
            Check.due("man(0, " + what + ")", man[what], x.man(0, what));
        }
        Check.due("dish(0, 0)", 15, x.dish(0, 0));
        Check.due("dish(0, 3)", 5, x.dish(0, 3));
        Check.due("gained(0)", 9, x.gained(0));
        Check.due("gained(1)", 6, x.gained(1));
        Check.due("undo()", false, x.undo());
        x.later(1);
        Check.due("restore(1) again", true, x.restore(1));
        Check.due("count(5)", 2, x.count(5));
        Check.due("undo()", false, x.undo());
        x.later(4);
        Check.due("hold(1) anew", true, x.hold(1));
        x.later(4);
        x.restore(1);
        Check.due("count(5)", 6, x.count(5));
        Check.due("hold(0)", true, x.hold(0));
        x.later(1);
        Check.due("hold(2)", true, x.hold(2));
        Check.due("count(10)", 3, x.count(10));
        x.restore(0);
        Check.due("count(5)", 6, x.count(5));
        x.restore(2);
        Check.due("count(5)", 7, x.count(5));
    }

    private static void noSuchSlots() {
        EatenToll x = Check.told("man m 9 0 0 0;");
        x.later(3);
        for (int slot : new int[] {-1, 3, 32, Integer.MIN_VALUE, Integer.MAX_VALUE}) {
            Check.due("hold(" + slot + ")", false, x.hold(slot));
            Check.due("restore(" + slot + ")", false, x.restore(slot));
        }
        x.hold(0);
        Check.due("restore(1) of nothing", false, x.restore(1));
        Check.due("restore(2) of nothing", false, x.restore(2));
        Check.due("nothing happened", 3, x.count(5));
        Check.due("nothing happened", 1, x.count(9));
        Check.put(x, "man m 9 0 0 0;");
        x.read();
        Check.due("restore(0) behind a text", false, x.restore(0));
        Check.due("count(10)", 0, x.count(10));
    }

    private static void counts() {
        EatenToll x = Check.told("dish a 1 1 9; dish b 1 1 9; man m 9 0 0 0; man n 9 0 0 0; man o 9 0 0 0; belly p 1 1;"
            + "goes m 1; goes m 2; goes m 3; goes m 4; owe m n 1; owe m n 1; owe m n 1; owe m n 1; owe m n 1; law 0 a = 1;");
        x.later(49);
        x.pass(0, 0);
        x.pass(1, 0);
        x.pass(2, 1);
        x.enter(0, 0, 0);
        x.hold(2);
        x.feed(0, 0, 0, 0, 0);
        x.back(3);
        int[] counts = {2, 3, 1, 4, 5, 1, 2, 1, 17, 4, 1, 2, 1};
        for (int what = 0; what < counts.length; what++) {
            Check.due("count(" + what + ")", counts[what], x.count(what));
        }
        for (int what : new int[] {-1, 13, 14, Integer.MIN_VALUE, Integer.MAX_VALUE}) {
            Check.due("count(" + what + ")", -1, x.count(what));
        }
    }
}
