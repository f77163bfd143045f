/** The edges of texts, tokens and their form, as the Terms tell them. */
public final class TokenEdgesTest {
    private static final String DISH = "dish a 1 2 3;";
    private static final String[] WORDS = {"dish", "man", "law", "if", "then", "else", "belly", "goes", "owe", "hates", "ill",
        "fast", "hour", "load", "room", "full", "ahead", "left", "sick"};

    public static void main(String[] args) {
        calls();
        bytes();
        blanks();
        longest();
        nameLengths();
        letters();
        words();
        intLengths();
        digits();
        signs();
        noTokens();
        tells();
        repeated();
        Check.end();
    }

    private static boolean isBlank(int b) {
        return b == 9 || b == 10 || b == 13 || b == 32;
    }

    private static boolean isLetter(int b) {
        return b >= 97 && b <= 122;
    }

    private static boolean isDigit(int b) {
        return b >= 48 && b <= 57;
    }

    /** The last calls that are promised answer as the first ones do. */
    private static void calls() {
        Check.says("An object is used for at most 512 calls after it has been made; what later calls answer is free.");
        EatenToll x = Check.told("man m 9 0 0 0;");
        // The text took a feed, a back and a read: 3 calls.
        for (int call = 4; call <= 512; call++) {
            Check.due("call " + call + ", later(1)", (call - 3) % 24, x.later(1));
        }
    }

    private static void bytes() {
        Check.says("A TEXT has 2,000 bytes at most.");
        for (int length = 1999; length <= 2000; length++) {
            EatenToll x = new EatenToll();
            Check.put(x, " ".repeat(length - DISH.length()) + DISH);
            Check.due("bytes on the tape", length, x.count(8));
            Check.due("read() of " + length + " bytes", 0, x.read());
            Check.due("its last tell is told", 1, x.count(0));
            Check.faultAt(1, length, " ".repeat(length - 4) + "dish");
            Check.faultAt(1, length, " ".repeat(length - 12) + "dish a 1 2 3");
            Check.faultAt(1, length, "dish" + " ".repeat(length - 4));
            Check.faultAt(1, length - 1, " ".repeat(length - 1) + "#");
        }
        EatenToll x = new EatenToll();
        Check.put(x, " ".repeat(2000 - DISH.length()) + DISH);
        Check.due("a byte beyond 2,000", -1, x.feed(0x23232323, 0, 0, 0, 0));
        Check.due("read() of what came", 0, x.read());
        Check.due("its last tell is told", 1, x.count(0));
    }

    private static void blanks() {
        Check.says("with blanks (9, 10, 13, 32) between or not");
        for (int b = 0; b < 256; b++) {
            String text = "dish" + (char) b + "a 1 2 3;";
            if (isBlank(b)) {
                Check.right(text);
                Check.right((char) b + text + (char) b);
                Check.right((char) b + "" + (char) b);
            } else {
                // A letter makes one name of it all, which no text begins with.
                Check.faultAt(1, isLetter(b) ? 0 : 4, text);
            }
        }
        Check.right("dish a1 2 3;man m9 0 0 0hates a ill a1fast 0 1;law 0a=1+1;");
        Check.right(" dish\ta\n1\r2 \t\n\r3 ; law 0 a = ( 1 + 1 ) ; ");
    }

    private static void longest() {
        Check.says("TOKENS, the longest that can be,");
        Check.fault(1, "@dishman a 1 2 3;");
        Check.fault(1, DISH + "@lawlaw 0 a = 1;");
        Check.fault(1, "dish a 12 @;");
        EatenToll x = Check.told("dish dishman 1 23 456; man m 99 0 0 0; law 0 dishman = 12 - 7;");
        Check.due("GAIN 23 is one INT", 23, x.dish(0, 2));
        Check.due("STORE 456 is one INT", 456, x.dish(0, 0));
        Check.due("12 is one INT", 5, x.toll(0, 0, 0));
    }

    private static void nameLengths() {
        Check.says("NAMES (letters a .. z, 8 at most, none of the words in quotes)");
        for (int length = 1; length <= 10; length++) {
            String name = "q".repeat(length);
            if (length <= 8) {
                Check.right("dish " + name + " 1 2 3; man m 9 0 0 0 hates " + name + "; law 0 " + name + " = 1;");
            } else {
                Check.fault(1, "dish @" + name + " 1 2 3;");
                Check.fault(1, "man @" + name + " 9 0 0 0;");
                Check.fault(1, "belly @" + name + " 9 0;");
                Check.fault(1, DISH + "law 0 @" + name + " = 1;");
                Check.fault(1, DISH + "man m 9 0 0 0 hates @" + name + ";");
                Check.fault(1, "@" + name);
            }
        }
        Check.fault(1, "dish @1 2 3;");
    }

    private static void letters() {
        for (int b = 0; b < 256; b++) {
            String alone = "dish " + (char) b + " 1 2 3;";
            String within = "dish x" + (char) b + "x 1 2 3;";
            if (isLetter(b)) {
                Check.right(alone);
                Check.right(within);
            } else {
                Check.faultAt(1, isBlank(b) ? 7 : 5, alone);
                Check.faultAt(1, isBlank(b) || isDigit(b) ? 7 : 6, within);
            }
        }
    }

    private static void words() {
        for (String word : WORDS) {
            Check.fault(1, "dish @" + word + " 1 2 3;");
            Check.fault(1, "man @" + word + " 9 0 0 0;");
            Check.fault(1, "belly @" + word + " 9 0;");
            Check.fault(1, DISH + "law 0 @" + word + " = 1;");
            Check.right("dish " + word.substring(0, word.length() - 1) + " 1 2 3;");
            Check.right("dish " + word + "z 1 2 3;");
            Check.right("dish z" + word + " 1 2 3;");
        }
    }

    private static void intLengths() {
        Check.says("INTS (1 to 4 digits)");
        String[] threes = {"3", "03", "003", "0003"};
        for (String three : threes) {
            EatenToll x = Check.told("dish a 1 2 " + three + ";");
            Check.due("STORE " + three, 3, x.dish(0, 0));
            Check.right(DISH + "law 0 a = " + three + ";");
        }
        Check.fault(1, "dish a 1 2 @;");
        Check.fault(1, "dish a 1 2 @00003;");
        Check.fault(1, "dish a 1 2 @000003;");
        Check.fault(1, DISH + "law 0 a = @00003;");
        Check.right(DISH + "law 0 a = 9998;");
        Check.right(DISH + "law 0 a = 9999;");
        Check.fault(1, DISH + "law 0 a = @10000;");
        Check.fault(1, DISH + "law @00000 a = 1;");
        Check.fault(1, "dish a 1 2 3" + ";@99999999999999999999");
    }

    private static void digits() {
        for (int b = 0; b < 256; b++) {
            String text = "dish a " + (char) b + " 2 3;";
            if (b >= '1' && b <= '9') {
                Check.right(text);
            } else if (b == '0') {
                Check.faultAt(5, 7, text);
            } else {
                Check.faultAt(1, isBlank(b) ? 12 : 7, text);
            }
        }
    }

    /** At the place of each sign every byte is tried: only those stand that the form lets stand there. */
    private static void signs() {
        Check.says("SIGNS ; = + - * / < ( ) .");
        onlyThese("dish a 1 2 3", "", ";");
        onlyThese(DISH + "law 0 a", "1;", "=");
        onlyThese(DISH + "law 0 a=1", "1;", "+-*/0123456789");
        onlyThese(DISH + "law 0 a=if 1", "2 then 3 else 4;", "<");
        onlyThese(DISH + "law 0 a=", "1);", "(");
        onlyThese(DISH + "law 0 a=(1", ";", ")");
    }

    private static void onlyThese(String before, String after, String these) {
        for (int b = 0; b < 256; b++) {
            EatenToll x = new EatenToll();
            Check.put(x, before + (char) b + after);
            Check.due("byte " + b + " behind " + before, these.indexOf(b) >= 0 ? 0 : 1, x.read());
        }
    }

    private static void noTokens() {
        Check.says("A longer one, all else, is no TOKEN.");
        for (int b = 0; b < 256; b++) {
            if (!isBlank(b)) {
                Check.faultAt(1, 0, (char) b + "");
                Check.faultAt(1, DISH.length(), DISH + (char) b);
            }
        }
        Check.fault(1, "@abcdefghi");
        Check.fault(1, DISH + "@12345");
        Check.fault(1, "dish a@.b 1 2 3;");
    }

    private static final String TOLD = DISH + "man m 9 0 0 0; man n 9 0 0 0;";

    private static String joined(String[] tokens, int from, int to) {
        StringBuilder b = new StringBuilder();
        for (int i = from; i < to; i++) {
            b.append(tokens[i]).append(' ');
        }
        return b.toString();
    }

    /** A tell is right whole; where it ends too early, or has a token more, is its fault. */
    private static void tell(String whole) {
        String[] tokens = whole.split(" ");
        Check.right(TOLD + whole);
        for (int place = 1; place < tokens.length; place++) {
            Check.fault(1, TOLD + joined(tokens, 0, place) + "@");
            Check.fault(1, TOLD + joined(tokens, 0, place).trim() + "@");
            Check.fault(1, TOLD + joined(tokens, 0, place) + "@dish " + joined(tokens, place, tokens.length));
        }
        // None of these goes on anywhere in a tell without brackets, nor begins one.
        for (String no : new String[] {")", "#", "abcdefghi", "12345"}) {
            for (int place = 0; place <= tokens.length; place++) {
                Check.fault(1, TOLD + joined(tokens, 0, place) + "@" + no + " " + joined(tokens, place, tokens.length));
            }
        }
    }

    private static void tells() {
        Check.says("1 SYNTAX: a TOKEN, or what is none, with which no text goes on.");
        tell("dish b 1 2 3 ;");
        tell("law 0 a = 1 ;");
        Check.says("TELL: 'dish' NAME INT INT INT ';'");
        tell("dish c 9 0 0 ;");
        Check.says("'man' NAME INT INT INT INT {TRAIT} ';'");
        tell("man p 9 0 0 0 ;");
        tell("man p 9 0 0 0 hates a ill a 2 fast 3 4 hates a ;");
        Check.says("TRAIT: 'hates' NAME | 'ill' NAME INT | 'fast' INT INT.");
        tell("man p 9 0 0 0 hates a ;");
        tell("man p 9 0 0 0 ill a 2 ;");
        tell("man p 9 0 0 0 fast 3 4 ;");
        Check.says("'law' INT NAME '=' {'if' E '<' E 'then' E 'else'} E ';'");
        tell("law 1 a = if 1 < 2 then 3 else 4 ;");
        tell("law 1 a = if left < sick then 3 else if 1 < 2 then 4 else 5 ;");
        Check.says("'belly' NAME INT INT ';'");
        tell("belly c 1 2 ;");
        Check.says("'goes' NAME INT ';'");
        tell("goes m 3 ;");
        Check.says("'owe' NAME NAME INT ';'");
        tell("owe m n 4 ;");
        Check.says("VAR: 'hour' | 'load' | 'room' | 'full' | 'ahead' | 'left' | 'sick'.");
        for (String var : new String[] {"hour", "load", "room", "full", "ahead", "left", "sick"}) {
            tell("law 0 a = " + var + " + " + var + " ;");
            Check.fault(1, TOLD + "law 0 a = @" + var + "s;");
            Check.fault(1, TOLD + "law 0 a = @" + var.substring(1) + ";");
        }
        Check.fault(1, TOLD + "law 0 a = @a;");
        Check.fault(1, TOLD + "law 0 a = @m;");
    }

    private static void repeated() {
        Check.says("text: {TELL}.");
        Check.right("");
        Check.right(DISH);
        Check.right(DISH + DISH.replace('a', 'b'));
        Check.says("'man' NAME INT INT INT INT {TRAIT} ';'");
        Check.right("man m 9 0 0 0;");
        Check.right("man m 9 0 0 0 fast 1 2;");
        Check.right(DISH + "man m 9 0 0 0" + " hates a ill a 3 fast 1 2".repeat(20) + ";");
        Check.says("'law' INT NAME '=' {'if' E '<' E 'then' E 'else'} E ';'");
        Check.right(DISH + "law 0 a = 1;");
        Check.right(DISH + "law 0 a = if 1 < 2 then 3 else 4;");
        Check.fault(1, DISH + "law 0 a = if 1 < 2 then @if 1 < 2 then 3 else 4 else 5;");
        Check.fault(1, DISH + "law 0 a = if 1 < 2 @< 3 then 3 else 4;");
        Check.fault(1, DISH + "law 0 a = 1 @if 1 < 2 then 3 else 4;");
        Check.says("E: PART {('+' | '-') PART}. PART: UNIT {('*' | '/') UNIT}. UNIT: INT | VAR | '(' E ')'.");
        for (String sign : new String[] {"+", "-", "*", "/"}) {
            Check.right(DISH + "law 0 a = 1 " + sign + " hour " + sign + " (2 " + sign + " 3);");
            Check.fault(1, DISH + "law 0 a = @" + sign + " 1;");
            Check.fault(1, DISH + "law 0 a = 1 " + sign + " @" + sign + " 1;");
            Check.fault(1, DISH + "law 0 a = 1 " + sign + " @;");
            Check.fault(1, DISH + "law 0 a = (1 " + sign + " @) + 1;");
        }
        Check.fault(1, DISH + "law 0 a = (@);");
        Check.fault(1, DISH + "law 0 a = (1@;");
        Check.fault(1, DISH + "law 0 a = ((1)@;");
        Check.fault(1, DISH + "law 0 a = 1@);");
        Check.fault(1, DISH + "law 0 a = (1)@);");
        Check.fault(1, DISH + "law 0 a = (1) @(2);");
        Check.fault(1, DISH + "law 0 a = 1 @(2);");
    }
}
