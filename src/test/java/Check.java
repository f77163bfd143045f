import java.nio.charset.StandardCharsets;

/** What all tests use: texts put on the tape, answers compared, the end told. */
final class Check {
    private static int wrong = 0;
    private static int asked = 0;
    private static String sentence = "";

    private Check() {
    }

    static void due(String call, long want, long got) {
        asked++;
        if (got != want) {
            wrong++;
            System.out.println(sentence + call + " answered " + got + ", due is " + want);
        }
    }

    static void due(String call, boolean want, boolean got) {
        due(call, want ? 1 : 0, got ? 1 : 0);
    }

    /** The words of the document that the answers asked next are held against (QuotesTest compares them). */
    static void says(String words) {
        sentence = "\"" + words + "\": ";
    }

    static void end() {
        System.out.println(asked + " answers asked, " + wrong + " not as due");
        if (wrong != 0 || asked == 0) {
            System.exit(1);
        }
    }

    /** Puts a text behind the tape: blanks fill up the last twenty bytes and are taken back. */
    static void put(EatenToll x, String text) {
        put(x, text.getBytes(StandardCharsets.ISO_8859_1));
    }

    static void put(EatenToll x, byte[] bytes) {
        int filled = (bytes.length + 19) / 20 * 20;
        for (int at = 0; at < filled; at += 20) {
            x.feed(four(bytes, at), four(bytes, at + 4), four(bytes, at + 8), four(bytes, at + 12),
                four(bytes, at + 16));
        }
        x.back(filled - bytes.length);
    }

    private static int four(byte[] bytes, int at) {
        int sum = 0;
        for (int i = at; i < at + 4; i++) {
            sum = sum << 8 | (i < bytes.length ? bytes[i] & 255 : ' ');
        }
        return sum;
    }

    /** A text that must have a fault where the mark @ stands in it, which is taken out. */
    static void fault(int number, String marked) {
        int place = marked.indexOf('@');
        faultAt(number, place, marked.substring(0, place) + marked.substring(place + 1));
    }

    static void faultAt(int number, int place, String text) {
        EatenToll x = new EatenToll();
        put(x, text);
        due("read() of " + text, number, x.read());
        due("place() of " + text, place, x.place());
    }

    static void right(String text) {
        faultAt(0, EatenToll.NONE, text);
    }

    /** A new object that has read a text without a fault. */
    static EatenToll told(String text) {
        EatenToll x = new EatenToll();
        put(x, text);
        due("read() of " + text, 0, x.read());
        return x;
    }
}
