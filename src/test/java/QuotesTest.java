import java.io.IOException;
import java.nio.file.DirectoryStream;
import java.nio.file.Files;
import java.nio.file.Path;
import java.util.ArrayList;
import java.util.Arrays;
import java.util.List;
import java.util.regex.Matcher;
import java.util.regex.Pattern;

/** Each word of the Terms and of the promises stands in what an *EdgesTest says that it tests. */
public final class QuotesTest {
    private static final Path DOCUMENT = Path.of("../shared/DOC.md");
    private static final Pattern SAYS = Pattern.compile("Check\\.says\\(((?:\\s*\"(?:[^\"\\\\]|\\\\.)*\"\\s*\\+?)+)\\)");
    private static final Pattern TEXT = Pattern.compile("\"((?:[^\"\\\\]|\\\\.)*)\"");

    public static void main(String[] args) throws IOException {
        String document = words(Files.readString(DOCUMENT));
        int begin = document.indexOf("## Terms");
        int end = document.indexOf("## Not promised");
        boolean[] quoted = new boolean[document.length()];
        for (String quote : quotes()) {
            int at = document.indexOf(quote);
            Check.due("the document says: " + quote, true, at >= 0);
            for (; at >= 0; at = document.indexOf(quote, at + 1)) {
                Arrays.fill(quoted, at, at + quote.length(), true);
            }
        }
        // Headings and signatures are no sentences.
        Matcher heading = Pattern.compile("## (Terms|Promise \\d+: .*? `.*?`:)|==== [IV]+\\.|```(text)?").matcher(document);
        while (heading.find()) {
            Arrays.fill(quoted, heading.start(), heading.end(), true);
        }
        for (String rest : left(document, quoted, begin, end)) {
            Check.due("no test quotes: " + rest, 0, 1);
        }
        Check.end();
    }

    private static String words(String text) {
        return text.replaceAll("\\s+", " ");
    }

    private static List<String> quotes() throws IOException {
        List<String> quotes = new ArrayList<>();
        try (DirectoryStream<Path> tests = Files.newDirectoryStream(Path.of("src/test/java"), "*EdgesTest.java")) {
            for (Path test : tests) {
                Matcher says = SAYS.matcher(Files.readString(test));
                while (says.find()) {
                    StringBuilder quote = new StringBuilder();
                    Matcher text = TEXT.matcher(says.group(1));
                    while (text.find()) {
                        quote.append(text.group(1));
                    }
                    quotes.add(quote.toString());
                }
            }
        }
        return quotes;
    }

    /** What is not quoted and has more in it than signs and blanks. */
    private static List<String> left(String document, boolean[] quoted, int begin, int end) {
        List<String> left = new ArrayList<>();
        for (int at = begin; at < end; at++) {
            int from = at;
            while (at < end && !quoted[at]) {
                at++;
            }
            String rest = document.substring(from, at).trim();
            if (rest.matches(".*\\w.*")) {
                left.add(rest);
            }
        }
        return left;
    }
}
