import java.util.Arrays;

/** All that can be asked of an object with few men and dishes without changing it, in some hundred calls. */
final class Look {
    private final EatenToll x;
    private long[] answers = new long[256];
    private int size;

    private Look(EatenToll x) {
        this.x = x;
    }

    static long[] at(EatenToll x) {
        Look look = new Look(x);
        look.counts();
        for (int man = 0; man < Math.min(2, x.count(1)); man++) {
            look.man(man);
        }
        for (int dish = 0; dish < Math.min(2, x.count(0)); dish++) {
            for (int what = 0; what < 4; what++) {
                look.note(x.dish(dish, what));
            }
        }
        look.book();
        return Arrays.copyOf(look.answers, look.size);
    }

    static void same(String when, long[] before, long[] after) {
        Check.due(when + ": as many answers", before.length, after.length);
        for (int i = 0; i < Math.min(before.length, after.length); i++) {
            Check.due(when + ": answer " + i, before[i], after[i]);
        }
    }

    private void note(long answer) {
        answers[size++] = answer;
    }

    private void counts() {
        for (int what = 0; what <= 12; what++) {
            note(x.count(what));
        }
        for (int gate = 0; gate < 2; gate++) {
            note(x.gained(gate));
        }
        for (int what = 0; what < 4; what++) {
            note(x.day(what));
        }
        note(x.cleared());
    }

    private void man(int man) {
        for (int what = 0; what < 6; what++) {
            note(x.man(man, what));
        }
        for (int gate = 0; gate < 2; gate++) {
            note(x.toll(man, gate, -1));
            note(x.toll(man, gate, 0));
            note(x.may(man, gate));
            note(x.when(man, gate));
            note(x.hire(man, gate, 0));
            note(x.tongue(man, gate));
            note(x.soonest(1 << man, gate));
        }
        note(x.net(man));
        note(x.best(1 << man, -1));
    }

    private void book() {
        int entries = x.count(7);
        note(x.judge(entries));
        note(x.odd(entries));
        note(x.led(entries, -1, -1));
        note(x.led(entries, 0, 0));
    }
}
