import java.nio.charset.StandardCharsets;

/** Long runs of made-up calls: the class and the oracle must answer alike. */
public final class OracleTest {
    private static final String[] NAMES = {"a", "b", "honey", "chalk", "tom", "ann", "joe", "kit", "bob", "eve",
        "zed", "abcdefgh", "q", "r", "s", "t", "u", "v"};
    private static final String[] PARTS = {"dish", "man", "law", "if", "then", "else", "belly", "goes", "owe",
        "hates", "ill", "fast", "hour", "load", "room", "full", "ahead", "left", "sick", ";", "=", "+", "-", "*",
        "/", "<", "(", ")", "0", "1", "7", "23", "24", "99", "100", "9999", "10000", "a", "tom", "abcdefghi", "A",
        "#", ".", ">", "\u00e9", "\t", "\n", "\r", " ", "dishes"};

    private long seed;
    private int dishes;
    private int men;
    private boolean hungry;
    private boolean roomy;
    private boolean wide;

    private OracleTest(long seed) {
        this.seed = seed * 1000003 + 17;
    }

    public static void main(String[] args) {
        int runs = args.length > 0 ? Integer.parseInt(args[0]) : 400;
        for (int run = 0; run < runs; run++) {
            new OracleTest(run).run(run);
        }
        Check.end();
    }

    private int below(int n) {
        seed = seed * 6364136223846793005L + 1442695040888963407L;
        return (int) ((seed >>> 33) % n);
    }

    private int near(int least, int most) {
        return least + below(most - least + 1);
    }

    private boolean chance(int of100) {
        return below(100) < of100;
    }

    /** Any number that may be told, its bounds more often than the others. */
    private int toldNumber(int least, int most) {
        return chance(15) ? least : chance(20) ? most : near(least, most);
    }

    // ---- texts ----

    private String unit(int deep) {
        if (deep > 0 && chance(20)) {
            return "(" + expr(deep - 1) + ")";
        }
        String[] vars = {"hour", "load", "room", "full", "ahead", "left", "sick"};
        return chance(50) ? vars[below(7)] : String.valueOf(chance(85) ? below(9) : below(10000));
    }

    private String expr(int deep) {
        StringBuilder b = new StringBuilder(unit(deep));
        while (chance(40)) {
            b.append(" + - * / ".charAt(1 + 2 * below(4))).append(chance(50) ? " " : "").append(unit(deep));
        }
        return b.toString();
    }

    private String law() {
        StringBuilder b = new StringBuilder("law " + below(2) + " " + NAMES[below(dishes)] + " = ");
        for (int ifs = 0; ifs < 4 && chance(35); ifs++) {
            b.append("if ").append(expr(3)).append("<").append(expr(3)).append(" then ").append(expr(3)).append(" else ");
        }
        return b.append(chance(45) || hungry ? String.valueOf(below(4)) : expr(6)).append(";").toString();
    }

    private String man(int number) {
        int belly = wide ? toldNumber(0, 99) : hungry ? near(0, 20) : roomy ? near(10, 60) : near(0, 40);
        int full = wide ? toldNumber(0, belly) : below(belly / 2 + 1);
        int load = wide ? toldNumber(0, 999) : below(1000);
        StringBuilder b = new StringBuilder("man " + NAMES[4 + number] + " " + belly + " " + full + " " + below(10) + " " + load);
        while (chance(35)) {
            int from = wide ? toldNumber(0, 23) : below(24);
            String dish = dishes == 0 ? "" : NAMES[below(dishes)];
            String trait = dishes == 0 || chance(33) ? " fast " + from + " " + near(from, wide ? 23 : Math.min(23, from + 6))
                : chance(50) ? " hates " + dish : " ill " + dish + " " + near(1, 6);
            b.append(trait);
        }
        return b.append(chance(50) ? ";" : " ; ").toString();
    }

    private String text() {
        String text = anyText();
        for (int tries = 0; tries < 50 && (text.length() > 1980 || tokensOf(text) > 400); tries++) {
            text = anyText();
        }
        return text;
    }

    private static int tokensOf(String text) {
        int tokens = 0;
        String around = " " + text;
        for (int i = 1; i < around.length(); i++) {
            char c = around.charAt(i);
            char before = around.charAt(i - 1);
            boolean goesOn = Character.isLetter(c) && Character.isLetter(before) || Character.isDigit(c) && Character.isDigit(before);
            tokens += c > ' ' && !goesOn ? 1 : 0;
        }
        return tokens;
    }

    private String anyText() {
        dishes = chance(90) ? near(1, 4) : 0;
        men = chance(90) ? near(2, 8) : below(2);
        hungry = chance(30);
        roomy = chance(50);
        boolean plenty = chance(60);
        boolean many = chance(30);
        wide = chance(35);
        StringBuilder b = new StringBuilder();
        for (int i = 0; i < dishes; i++) {
            int bulk = wide ? toldNumber(1, 9) : near(1, chance(50) ? 3 : 9);
            int gain = wide ? toldNumber(0, 99) : below(12);
            int store = wide && plenty ? toldNumber(0, 999) : plenty ? near(50, 999) : below(30);
            b.append("dish ").append(NAMES[i]).append(" ").append(bulk).append(" ").append(gain).append(" ").append(store).append(";\n");
        }
        for (int i = 0; i < men; i++) {
            b.append(man(i));
        }
        for (int i = hungry ? 8 : near(2, 8); i > 0 && dishes > 0; i--) {
            b.append(law());
        }
        for (int i = hungry ? near(3, 6) : below(5); i > 0; i--) {
            int room = wide ? toldNumber(0, chance(50) ? 99 : 20) : hungry ? below(16) : below(30);
            int fee = wide ? toldNumber(0, 99) : below(8);
            b.append("belly ").append(NAMES[11 + i]).append(" ").append(room).append(" ").append(fee).append(";");
        }
        for (int i = many ? 20 : below(9); i > 0 && men > 0; i--) {
            b.append("goes ").append(NAMES[4 + below(men)]).append(" ").append(below(24)).append(";");
        }
        for (int i = many ? 20 : below(9); i > 0 && men > 1; i--) {
            int debtor = below(men);
            int owed = (debtor + near(1, men - 1)) % men;
            b.append("owe ").append(NAMES[4 + debtor]).append(" ").append(NAMES[4 + owed]).append(" ")
                .append(chance(70) ? near(1, 5) : near(1, 99)).append(";");
        }
        return b.toString();
    }

    /** A text with a part more, a part less or another part somewhere. */
    private String spoilt(String text) {
        if (text.isEmpty()) {
            return PARTS[below(PARTS.length)];
        }
        int at = below(text.length());
        String part = PARTS[below(PARTS.length)];
        switch (below(4)) {
            case 0:
                return text.substring(0, at) + part + text.substring(at);
            case 1:
                return text.substring(0, at) + " " + part + " " + text.substring(at);
            case 2:
                return text.substring(0, at) + text.substring(Math.min(text.length(), at + near(1, 4)));
            default:
                return text.substring(0, at) + part + text.substring(at + 1);
        }
    }

    /** Pieces in any order, which the grammar's turns are sometimes right for. */
    private String pieces() {
        StringBuilder b = new StringBuilder();
        String[] tells = {"dish a 1 2 3;", "dish b 1 2 3;", "man tom 9 1 1 1;", "man ann 9 1 1 1 hates a;", "belly kit 3 3;",
            "goes tom 3;", "owe tom ann 3;", "owe ann ann 1;", "law 0 a = 1;", "law 1 b = ((((((1))))));",
            "law 0 a = (((((((1)))))));", "law 0 a = if 1<2 then 3 else if 1<2 then 3 else if 1<2 then 3 else if 1<2 then 3 else 2;",
            "law 0 a = if 1<2 then 3 else if 1<2 then 3 else if 1<2 then 3 else if 1<2 then 3 else if 1<2 then 3 else 2;",
            "man tom 9 10 1 1;", "dish c 0 0 0;", "dish d 1 1 1000;", "man joe 1 1 1 1 fast 5 4;", "goes nobody 3;"};
        for (int i = near(1, 30); i > 0; i--) {
            b.append(tells[below(tells.length)]);
        }
        return b.toString();
    }

    private void tell(EatenToll x, Oracle y, String text, String run) {
        byte[] bytes = text.getBytes(StandardCharsets.ISO_8859_1);
        for (int at = 0; at < bytes.length; at += 20) {
            int[] fives = new int[5];
            for (int i = 0; i < 20; i++) {
                fives[i / 4] = fives[i / 4] << 8 | (at + i < bytes.length ? bytes[at + i] & 255 : ' ');
            }
            Check.due(run + " feed", y.feed(fives), x.feed(fives[0], fives[1], fives[2], fives[3], fives[4]));
        }
        int more = (20 - bytes.length % 20) % 20;
        Check.due(run + " back(" + more + ")", y.back(more), x.back(more));
        Check.due(run + " read() of " + text, y.read(), x.read());
        Check.due(run + " place() of " + text, y.place(), x.place());
    }

    // ---- runs ----

    private void run(int number) {
        EatenToll x = new EatenToll();
        Oracle y = new Oracle();
        String run = "run " + number;
        for (int texts = 0; texts < 3; texts++) {
            String text = text();
            tell(x, y, text, run);
            for (int calls = 0; calls < 90; calls++) {
                oneCall(x, y, run + " after " + text + ": ");
            }
            for (int bad = 0; bad < 3; bad++) {
                String worse = chance(70) ? spoilt(text) : pieces();
                tell(x, y, worse.length() > 1980 ? worse.substring(0, 1980) : worse, run);
            }
        }
    }

    private int someMan() {
        return chance(96) && men > 0 ? below(men) : near(-2, 9);
    }

    private int someDish() {
        return chance(90) && dishes > 0 ? below(dishes) : near(-2, 5);
    }

    private int someGate() {
        return chance(97) ? below(2) : near(-1, 2);
    }

    private int someSet() {
        return chance(97) ? below(1 << men) : near(-3, 400);
    }

    private void oneCall(EatenToll x, Oracle y, String run) {
        int m = someMan();
        int g = someGate();
        int d = someDish();
        int s = someSet();
        switch (below(6)) {
            case 0:
            case 1:
                change(x, y, run, m, g);
                break;
            case 2:
                look(x, y, run, m, g, d);
                break;
            case 3:
                share(x, y, run, m, g);
                break;
            case 4:
                plan(x, y, run, m, g, s);
                break;
            default:
                judge(x, y, run, m, d);
                break;
        }
    }

    private void change(EatenToll x, Oracle y, String run, int m, int g) {
        int slot = near(-1, 3);
        switch (below(10)) {
            case 0:
                int n = chance(80) ? near(0, 9) : near(-2, 250);
                Check.due(run + "later(" + n + ")", y.later(n), x.later(n));
                break;
            case 1:
                Check.due(run + "undo()", y.undo(), x.undo());
                break;
            case 2:
                Check.due(run + "hold(" + slot + ")", y.hold(slot), x.hold(slot));
                break;
            case 3:
                if (chance(30)) {
                    Check.due(run + "restore(" + slot + ")", y.restore(slot), x.restore(slot));
                }
                break;
            default:
                Check.due(run + "pass(" + m + ", " + g + ")", y.pass(m, g), x.pass(m, g));
                break;
        }
    }

    private void look(EatenToll x, Oracle y, String run, int m, int g, int d) {
        int what = near(-1, 6);
        Check.due(run + "man(" + m + ", " + what + ")", y.man(m, what), x.man(m, what));
        Check.due(run + "dish(" + d + ", " + what + ")", y.dish(d, what), x.dish(d, what));
        Check.due(run + "toll(" + m + ", " + g + ", " + d + ")", y.toll(m, g, d), x.toll(m, g, d));
        Check.due(run + "toll(" + m + ", " + g + ", -1)", y.toll(m, g, -1), x.toll(m, g, -1));
        Check.due(run + "may(" + m + ", " + g + ")", y.may(m, g), x.may(m, g));
        Check.due(run + "gained(" + g + ")", y.gained(g), x.gained(g));
        int counted = near(-1, 13);
        Check.due(run + "count(" + counted + ")", y.count(counted), x.count(counted));
    }

    private void share(EatenToll x, Oracle y, String run, int m, int g) {
        int other = someMan();
        int what = near(-1, 20) < 20 ? below(2) : 2;
        int k = near(-1, 19);
        int b = near(0, 11);
        int a = near(-1, 11);
        Check.due(run + "hire(" + m + ", " + g + ", " + what + ")", y.hire(m, g, what), x.hire(m, g, what));
        Check.due(run + "tongue(" + m + ", " + g + ")", y.tongue(m, g), x.tongue(m, g));
        Check.due(run + "together(" + m + ", " + other + ", " + g + ")", y.together(m, other, g), x.together(m, other, g));
        Check.due(run + "split(" + m + ", " + other + ", " + g + ")", y.split(m, other, g), x.split(m, other, g));
        Check.due(run + "odds(" + k + ", " + a + ", " + b + ")", y.odds(k, a, b), x.odds(k, a, b));
    }

    private void plan(EatenToll x, Oracle y, String run, int m, int g, int s) {
        boolean gain = chance(50);
        int what = near(-1, 20) < 20 ? below(2) : 2;
        int d = someDish();
        int day = near(-1, 4);
        Check.due(run + "when(" + m + ", " + g + ")", y.when(m, g), x.when(m, g));
        Check.due(run + "hourOf(" + m + ", " + g + ", " + gain + ")", y.hourOf(m, g, gain), x.hourOf(m, g, gain));
        Check.due(run + "day(" + day + ")", y.day(day), x.day(day));
        switch (below(4)) {
            case 0:
                Check.due(run + "soonest(" + s + ", " + g + ")", y.soonest(s, g), x.soonest(s, g));
                break;
            case 1:
                Check.due(run + "least(" + s + ", " + g + ", " + gain + ")", y.least(s, g, gain), x.least(s, g, gain));
                break;
            case 2:
                Check.due(run + "crowd(" + s + ", " + g + ", " + what + ")", y.crowd(s, g, what), x.crowd(s, g, what));
                break;
            default:
                Check.due(run + "best(" + s + ", " + d + ")", y.best(s, d), x.best(s, d));
                Check.due(run + "best(" + s + ", -1)", y.best(s, -1), x.best(s, -1));
                break;
        }
    }

    private int bookHour = 0;

    private void judge(EatenToll x, Oracle y, String run, int m, int d) {
        int g = someGate();
        if (y.count(7) == 0) {
            bookHour = 0;
        }
        bookHour = chance(90) ? Math.min(24, bookHour + below(3)) : near(-1, 24);
        Check.due(run + "enter(" + m + ", " + g + ", " + bookHour + ")", y.enter(m, g, bookHour), x.enter(m, g, bookHour));
        if (chance(6) || y.count(7) == 30 || bookHour >= 23) {
            Check.due(run + "burn()", y.burn(), x.burn());
            bookHour = 0;
        }
        int k = chance(90) ? y.count(7) : near(-1, 31);
        Check.due(run + "judge(" + k + ")", y.judge(k), x.judge(k));
        Check.due(run + "odd(" + k + ")", y.odd(k), x.odd(k));
        int who = chance(60) ? -1 : m;
        Check.due(run + "led(" + k + ", " + who + ", " + d + ")", y.led(k, who, d), x.led(k, who, d));
        Check.due(run + "net(" + m + ")", y.net(m), x.net(m));
        Check.due(run + "cleared()", y.cleared(), x.cleared());
    }
}
