/** Promises 1 to 3: a new object, feed, back. */
public final class TapeTest {
    public static void main(String[] args) {
        newObject();
        feed();
        back();
        bytesOfAnInt();
        Check.end();
    }

    private static void newObject() {
        EatenToll x = new EatenToll();
        for (int what = 0; what <= 12; what++) {
            Check.due("new: count(" + what + ")", 0, x.count(what));
        }
        Check.due("new: place()", -1, x.place());
        Check.due("new: man(0, 0)", -1, x.man(0, 0));
        Check.due("new: dish(0, 0)", -1, x.dish(0, 0));
        Check.due("new: toll(0, 0, -1)", -1, x.toll(0, 0, -1));
        Check.due("new: undo()", false, x.undo());
        Check.due("new: restore(0)", false, x.restore(0));
        Check.due("new: soonest(0, 0)", 0, x.soonest(0, 0));
        Check.due("new: soonest(1, 0)", -1, x.soonest(1, 0));
        Check.due("new: best(0, -1)", 0, x.best(0, -1));
        Check.due("new: best(0, 0)", -1, x.best(0, 0));
        Check.due("new: cleared()", 0, x.cleared());
        Check.due("new: burn()", 0, x.burn());
        Check.due("new: enter(0, 0, 0)", -1, x.enter(0, 0, 0));
        Check.due("new: odd(0)", -2, x.odd(0));
        Check.due("new: hold(0)", true, x.hold(0));
        Check.due("new: later(30)", 6, x.later(30));
        Check.due("new: restore(0)", true, x.restore(0));
        Check.due("new: count(5)", 0, x.count(5));
        Check.due("NONE", -1, EatenToll.NONE);
    }

    private static void feed() {
        EatenToll x = new EatenToll();
        for (int i = 1; i <= 100; i++) {
            Check.due("feed no. " + i, 20 * i, x.feed(0x20202020, 0x20202020, 0x20202020, 0x20202020, 0x20202020));
        }
        Check.due("feed beyond 2,000", -1, x.feed(0, 0, 0, 0, 0));
        Check.due("count(8)", 2000, x.count(8));
        Check.due("back(19)", 1981, x.back(19));
        Check.due("feed beyond 2,000 by one", -1, x.feed(0, 0, 0, 0, 0));
        Check.due("back(1)", 1980, x.back(1));
        Check.due("feed up to 2,000", 2000, x.feed(0x20202020, 0x20202020, 0x20202020, 0x20202020, 0x20202020));
        Check.due("read() of 2,000 blanks", 0, x.read());
        Check.due("count(8) behind read()", 0, x.count(8));
    }

    private static void back() {
        EatenToll x = new EatenToll();
        Check.due("back(0) of none", 0, x.back(0));
        Check.due("back(1) of none", -1, x.back(1));
        x.feed(1, 2, 3, 4, 5);
        Check.due("back(-1)", -1, x.back(-1));
        Check.due("back(min)", -1, x.back(Integer.MIN_VALUE));
        Check.due("back(21)", -1, x.back(21));
        Check.due("back(max)", -1, x.back(Integer.MAX_VALUE));
        Check.due("count(8)", 20, x.count(8));
        Check.due("back(0)", 20, x.back(0));
        Check.due("back(5)", 15, x.back(5));
        Check.due("back(15)", 0, x.back(15));
    }

    /** The highest byte comes first, and bytes from 128 on are no token. */
    private static void bytesOfAnInt() {
        EatenToll x = new EatenToll();
        x.feed(0x64697368, 0x20612031, 0x20322033, 0x3b202020, 0x20202020);
        Check.due("read() of dish a 1 2 3;", 0, x.read());
        Check.due("dish(0, 1)", 1, x.dish(0, 1));
        Check.due("dish(0, 2)", 2, x.dish(0, 2));
        Check.due("dish(0, 0)", 3, x.dish(0, 0));
        x.feed(0x20202020, 0x202020e1, 0x20202020, 0x20202020, 0x20202020);
        Check.due("read() of a byte above 127", 1, x.read());
        Check.due("place()", 7, x.place());
        x.feed(0x20090a0d, 0x20202000, 0x20202020, 0x20202020, 0x20202020);
        Check.due("read() of a byte 0", 1, x.read());
        Check.due("place()", 7, x.place());
    }
}
