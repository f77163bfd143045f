import java.nio.charset.StandardCharsets;

/** Promises 4 and 5: read and place, with every fault. */
public final class ReadTest {
    private static final String DISH = "dish a 1 2 3;";
    private static final String MEN = "man m 9 0 0 0; man n 9 0 0 0;";

    public static void main(String[] args) {
        tokens();
        forms();
        rooms();
        tokenRoom();
        names();
        numbers();
        order();
        whatStays();
        whatComes();
        Check.end();
    }

    private static void tokens() {
        Check.right("");
        Check.right(" \t\r\n ");
        Check.right("dish a1 2 3;");
        Check.right("dish\ta\r\n1 2 0003;");
        Check.right("dish abcdefgh 1 2 3;law 0abcdefgh=1+2;");
        Check.right("dish dishes 1 2 3; dish hourly 1 2 3; dish i 1 1 1;");
        Check.fault(1, "dish @abcdefghi 1 2 3;");
        Check.fault(1, "dish a @00001 2 3;");
        Check.fault(1, "dish a 1 2 3@.");
        Check.fault(1, "@A");
        Check.fault(1, "dish @B 1 2 3;");
        Check.fault(1, "dish a@_ 1 2 3;");
        Check.fault(1, DISH + "law 0 a = 1 @> 2;");
        Check.fault(1, "@#");
        Check.fault(1, DISH + "@\0");
        for (String word : new String[] {"dish", "man", "law", "if", "then", "else", "belly", "goes", "owe", "hates",
            "ill", "fast", "hour", "load", "room", "full", "ahead", "left", "sick"}) {
            Check.fault(1, "dish @" + word + " 1 2 3;");
            Check.right("dish x" + word + " 1 2 3;");
        }
    }

    private static void forms() {
        Check.fault(1, "dish@");
        Check.fault(1, "dish a 1 2 3@");
        Check.fault(1, "dish a 1 2 3   @");
        Check.fault(1, "dish a 1 2 @;");
        Check.fault(1, "dish a 1 2 3 @4;");
        Check.fault(1, DISH + "@;");
        Check.fault(1, "@a");
        Check.fault(1, "@1");
        Check.fault(1, "@if");
        Check.fault(1, "man a 1 1 1 @;");
        Check.fault(1, "man a 1 1 1 1 @hour;");
        Check.fault(1, "man a 1 1 1 1 hates @;");
        Check.fault(1, DISH + "man m 1 1 1 1 ill a @;");
        Check.fault(1, "man m 1 1 1 1 fast 1 @;");
        Check.fault(1, DISH + "man m 1 1 1 1 hates a @a;");
        Check.fault(1, "belly b 1 @;");
        Check.fault(1, "belly b 1 1 @1;");
        Check.fault(1, MEN + "goes m @n;");
        Check.fault(1, MEN + "owe m @3;");
        Check.fault(1, MEN + "owe m n @;");
        Check.fault(1, DISH + "law @a = 1;");
        Check.fault(1, DISH + "law 0 a @1;");
        Check.fault(1, DISH + "law 0 a = @;");
        Check.fault(1, DISH + "law 0 a = @-1;");
        Check.fault(1, DISH + "law 0 a = 1 + @;");
        Check.fault(1, DISH + "law 0 a = 1 * @/ 2;");
        Check.fault(1, DISH + "law 0 a = 1 @2;");
        Check.fault(1, DISH + "law 0 a = @a;");
        Check.fault(1, DISH + "law 0 a = (1@;");
        Check.fault(1, DISH + "law 0 a = (@);");
        Check.fault(1, DISH + "law 0 a = 1@);");
        Check.fault(1, DISH + "law 0 a = (1 @< 2);");
        Check.fault(1, DISH + "law 0 a = 1 @< 2;");
        Check.fault(1, DISH + "law 0 a = if 1 @then 2 else 3;");
        Check.fault(1, DISH + "law 0 a = if 1 < 2 @else 3;");
        Check.fault(1, DISH + "law 0 a = if 1 < 2 then 3 @;");
        Check.fault(1, DISH + "law 0 a = if 1 < 2 then 3 else @;");
        Check.fault(1, DISH + "law 0 a = if 1 < 2 then @if 1 < 2 then 3 else 4 else 5;");
        Check.fault(1, DISH + "law 0 a = (@if 1 < 2 then 3 else 4);");
        Check.fault(1, DISH + "law 0 a = if 1 < 2 then 3 else 4 @else 5;");
        Check.fault(1, DISH + "law 0 a = 1 + @if 1 < 2 then 3 else 4;");
        Check.right(DISH + "law 0 a = if hour < 2 then load else if room < full then ahead else left - sick * (1 + 2) / 3;");
        Check.right("man m 1 1 1 1 fast 1 2 fast 0 23;");
    }

    private static void rooms() {
        String dishes = "dish a 1 1 1;dish b 1 1 1;dish c 1 1 1;dish d 1 1 1;";
        Check.right(dishes);
        Check.fault(2, dishes + "@dish e 1 1 1;");
        Check.fault(2, dishes + "@dish");
        Check.fault(2, dishes + "@dish #");
        StringBuilder men = new StringBuilder();
        StringBuilder bellies = new StringBuilder();
        for (int i = 0; i < 8; i++) {
            men.append("man m").append((char) ('a' + i)).append(" 9 0 0 0;");
        }
        for (int i = 0; i < 6; i++) {
            bellies.append("belly b").append((char) ('a' + i)).append(" 9 0;");
        }
        Check.right(men + "" + bellies);
        Check.fault(2, men + "@man x 9 0 0 0;");
        Check.fault(2, bellies + "@belly x 9 0;");
        Check.right(MEN + "goes m 1;".repeat(20) + "owe m n 1;".repeat(20));
        Check.fault(2, MEN + "goes m 1;".repeat(20) + "@goes m 1;");
        Check.fault(2, MEN + "owe m n 1;".repeat(20) + "@owe m n 1;");
        Check.right(DISH + "law 0 a = 1;".repeat(8));
        Check.fault(2, DISH + "law 0 a = 1;".repeat(8) + "@law 0 a = 1;");
        String branch = "if 1 < 2 then 3 else ";
        Check.right(DISH + "law 0 a = " + branch.repeat(4) + "5; law 1 a = " + branch.repeat(4) + "5;");
        Check.fault(2, DISH + "law 0 a = " + branch.repeat(4) + "@" + branch + "5;");
        Check.right(DISH + "law 0 a = ((((((1)))))) + ((((((2))))));");
        Check.fault(2, DISH + "law 0 a = ((((((@(1)))))));");
        Check.fault(2, DISH + "law 0 a = 1 + 2 * (1 - 2 / (1 + 2 * (1 + 2 * (1 + 2 * (1 + 2 * (1 + 2 * @(");
        Check.fault(2, DISH + "law 0 a = if (((((1))))) < ((((((@(");
        Check.right(DISH + "law 0 a = 1+1*(1+1*(1+1*(1+1*(1+1*(1+1*(1+1*1))))));");
    }

    private static void tokenRoom() {
        // 6 tokens of the dish, 4 ahead of the first unit, 2 for each further unit, the ';': 400.
        String all = DISH + "law 0 a = 1" + "+1".repeat(194) + ";";
        Check.right(all);
        Check.fault(1, all + "@;");
        Check.fault(2, all + "@goes");
        String full = DISH + "law 0 a = (1)" + "+1".repeat(193) + ";";
        Check.fault(2, full.substring(0, full.length() - 1) + "+@1;");
        // 14 tokens of the men, 16 of the goings, 6 of the third man, 3 of each fast: 399.
        String begin = MEN + "goes m 1;".repeat(4) + "man x 9 0 0 0 " + "fast 1 1 ".repeat(121);
        Check.fault(2, begin + "fast @1 1;");
        Check.fault(1, begin + "fast @x 1;");
        Check.fault(1, begin + "fast @#");
        Check.fault(1, begin + "fast @");
        Check.fault(2, begin + "; @law");
        Check.fault(1, begin + "; @fast");
        Check.right(begin + ";");
        Check.right(begin + ";   ");
        Check.fault(1, begin + ";   @#");
    }

    private static void names() {
        Check.fault(3, DISH + "dish @a 1 2 3;");
        Check.fault(3, DISH + "man @a 1 1 1 1;");
        Check.fault(3, DISH + "belly @a 1 1;");
        Check.fault(3, MEN + "belly @n 1 1;");
        Check.fault(3, "belly b 1 1; dish @b 1 1 1;");
        Check.fault(4, "man m 1 1 1 1 hates @a;");
        Check.fault(4, "man m 1 1 1 1 hates @a; " + DISH);
        Check.fault(4, DISH + "man m 1 1 1 1 hates @m;");
        Check.fault(4, DISH + "man m 1 1 1 1 ill @b 3;");
        Check.fault(4, "law 0 @a = 1; " + DISH);
        Check.fault(4, MEN + "law 0 @m = 1;");
        Check.fault(4, DISH + "goes @a 1;");
        Check.fault(4, "belly b 1 1; goes @b 1;");
        Check.fault(4, MEN + "owe m @x 1;");
        Check.fault(4, MEN + "owe @x m 1;");
        Check.fault(4, MEN + "owe @x x 1;");
        Check.fault(5, MEN + "owe m @m 1;");
        Check.right(DISH + "man m 1 1 1 1 hates a hates a ill a 1 ill a 6;");
    }

    private static void numbers() {
        Check.right("dish a 1 0 0; dish b 9 99 999; man m 0 0 0 0; man n 99 99 9 999 ill a 1 ill b 6 fast 0 0;");
        Check.right(MEN + "goes m 0; goes m 23; owe m n 1; owe m n 99; belly x 0 0; belly y 99 99;");
        Check.fault(5, "dish a @0 1 1;");
        Check.fault(5, "dish a @10 1 1;");
        Check.fault(5, "dish a 1 @100 1;");
        Check.fault(5, "dish a 1 1 @1000;");
        Check.fault(5, "man a @100 1 1 1;");
        Check.fault(5, "man a 5 @6 1 1;");
        Check.fault(5, "man a 5 5 @10 1;");
        Check.fault(5, "man a 5 5 1 @1000;");
        Check.fault(5, DISH + "man m 5 5 1 1 ill a @0;");
        Check.fault(5, DISH + "man m 5 5 1 1 ill a @7;");
        Check.fault(5, "man m 5 5 1 1 fast @24 24;");
        Check.fault(5, "man m 5 5 1 1 fast 0 @24;");
        Check.fault(5, "man m 5 5 1 1 fast 5 @4;");
        Check.right("man m 5 5 1 1 fast 5 5;");
        Check.fault(5, "belly b @100 0;");
        Check.fault(5, "belly b 0 @100;");
        Check.fault(5, MEN + "goes m @24;");
        Check.fault(5, MEN + "owe m n @0;");
        Check.fault(5, MEN + "owe m n @100;");
        Check.fault(5, DISH + "law @2 a = 1;");
        Check.right(DISH + "law 1 a = 9999 * 9999 * 9999;");
    }

    /** Form and room come ahead of sense, wherever they stand; else the first place counts. */
    private static void order() {
        Check.fault(1, "dish a 0 1 1; dish a 1 1 1; goes x 1@");
        Check.fault(2, "dish a 0 1 1;" + "dish b 1 1 1;".repeat(3) + "@dish c 1 1 1;");
        Check.fault(2, "dish a 1 1 1;".repeat(4) + "@dish a 1 1 1; #");
        Check.fault(1, "@#" + "dish a 1 1 1;".repeat(5));
        Check.fault(5, "dish a @0 1 1; dish a 1 1 1;");
        Check.fault(3, "dish a 1 1 1; dish @a 0 1 1;");
        Check.fault(5, "law @2 x = 1;");
        Check.fault(4, "owe @x y 0;");
        Check.fault(5, "man m @100 101 10 1000 hates x;");
        Check.fault(4, "man m 1 1 1 1 hates @x ill y 9 fast 30 2;");
    }

    private static void whatStays() {
        EatenToll x = Check.told(DISH + MEN + "law 0 a = 1;");
        x.pass(0, 0);
        x.later(3);
        x.enter(1, 0, 2);
        x.hold(1);
        Check.put(x, "dish");
        Check.due("read()", 1, x.read());
        Check.due("place()", 4, x.place());
        Check.due("count(8)", 0, x.count(8));
        Check.due("count(1)", 2, x.count(1));
        Check.due("count(5)", 3, x.count(5));
        Check.due("count(7)", 1, x.count(7));
        Check.due("count(9)", 2, x.count(9));
        Check.due("count(10)", 1, x.count(10));
        Check.due("count(11)", 1, x.count(11));
        Check.due("gained(0)", 2, x.gained(0));
        Check.due("toll(1, 0, 0)", 1, x.toll(1, 0, 0));
        Check.put(x, "dish z 1 1 1000; man q 9 0 0 0;");
        Check.due("read()", 5, x.read());
        Check.due("dish(0, 2)", 2, x.dish(0, 2));
        Check.due("count(1)", 2, x.count(1));
        Check.put(x, " ");
        x.back(1);
        Check.due("read() of an empty tape", 0, x.read());
        Check.due("place()", -1, x.place());
        Check.due("count(1)", 0, x.count(1));
        Check.due("count(5)", 0, x.count(5));
    }

    private static void whatComes() {
        EatenToll x = Check.told(DISH + MEN + "law 0 a = 1; law 1 a = 2; owe m n 5;");
        x.pass(0, 0);
        x.later(30);
        x.enter(1, 0, 2);
        x.hold(2);
        Check.put(x, "man only 20 7 3 55;".getBytes(StandardCharsets.US_ASCII));
        Check.due("read()", 0, x.read());
        int[] counts = {0, 1, 0, 0, 0, 0, 0, 0, 0, 0, 0, 0, 0};
        for (int what = 0; what < counts.length; what++) {
            Check.due("count(" + what + ")", counts[what], x.count(what));
        }
        int[] man = {7, 13, 0, 0, 55, 0};
        for (int what = 0; what < man.length; what++) {
            Check.due("man(0, " + what + ")", man[what], x.man(0, what));
        }
        Check.due("undo()", false, x.undo());
        Check.due("restore(2)", false, x.restore(2));
        Check.due("gained(0)", 0, x.gained(0));
        Check.due("net(0)", 0, x.net(0));
        Check.due("toll(0, 0, -1)", 0, x.toll(0, 0, -1));
        Check.put(x, "dish b 1 1 1; man only 20 7 3 55;");
        Check.due("read()", 0, x.read());
        Check.due("toll without a law", 0, x.toll(0, 0, 0));
        Check.put(x, "dish a 1 1 9; dish b 1 1 9; man m 9 0 0 0 hates b ill a 1 fast 0 9; law 0 a = 5; law 0 b = 4; law 1 b = 3;");
        Check.due("read()", 0, x.read());
        Check.due("toll(0, 0, 0)", 5, x.toll(0, 0, 0));
        Check.put(x, "dish a 1 1 9; dish b 1 1 9; man m 9 0 0 0; law 0 b = 2;");
        Check.due("read()", 0, x.read());
        Check.due("laws of the text ahead are gone", 0, x.toll(0, 0, 0));
        Check.due("laws of the text ahead are gone", 2, x.toll(0, 0, 1));
        Check.due("laws of the text ahead are gone", 0, x.toll(0, 1, 1));
        Check.put(x, "dish a 1 1 9; dish b 1 1 9; man m 9 0 0 0; law 0 a = 1; law 0 b = 1;");
        Check.due("read()", 0, x.read());
        Check.due("traits of the text ahead are gone", 0, x.pass(0, 0));
        Check.due("traits of the text ahead are gone", 0, x.man(0, 2));
    }
}
