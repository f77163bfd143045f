import java.io.IOException;
import java.lang.reflect.Field;
import java.lang.reflect.Method;
import java.lang.reflect.Modifier;
import java.nio.file.Files;
import java.nio.file.Path;
import java.util.ArrayList;
import java.util.Arrays;
import java.util.List;
import java.util.Set;
import java.util.TreeSet;
import java.util.regex.Matcher;
import java.util.regex.Pattern;

/** The document's face, and the rules of LANGUAGE.md that a test can see. */
public final class LanguageTest {
    private static final String[] FACE = {"int back(int)", "int best(int,int)", "int burn()", "int cleared()",
        "int count(int)", "int crowd(int,int,int)", "int day(int)", "int dish(int,int)", "int enter(int,int,int)",
        "int feed(int,int,int,int,int)", "int gained(int)", "boolean hold(int)", "int hire(int,int,int)",
        "int hourOf(int,int,boolean)", "int judge(int)", "int later(int)", "int least(int,int,boolean)",
        "int led(int,int,int)", "int man(int,int)", "int may(int,int)", "int net(int)", "int odd(int)",
        "long odds(int,int,int)", "int pass(int,int)", "int place()", "int read()", "boolean restore(int)",
        "int soonest(int,int)", "int split(int,int,int)", "int together(int,int,int)", "int toll(int,int,int)",
        "int tongue(int,int)", "boolean undo()", "int when(int,int)"};

    public static void main(String[] args) throws IOException {
        face();
        classes();
        String source = Files.readString(Path.of("src/main/java/EatenToll.java"));
        source(withoutCommentsAndTexts(source));
        methodLengths(source);
        Check.end();
    }

    private static void right(String what, boolean holds) {
        Check.due(what, true, holds);
    }

    private static void face() {
        Set<String> seen = new TreeSet<>();
        for (Method m : EatenToll.class.getDeclaredMethods()) {
            if (!Modifier.isPrivate(m.getModifiers())) {
                right(m + " is public and no more", m.getModifiers() == Modifier.PUBLIC);
                StringBuilder sign = new StringBuilder();
                for (Class<?> type : m.getParameterTypes()) {
                    sign.append(sign.length() == 0 ? "" : ",").append(type.getName());
                }
                seen.add(m.getReturnType().getName() + " " + m.getName() + "(" + sign + ")");
            }
        }
        right("the face is the document's", seen.equals(new TreeSet<>(Arrays.asList(FACE))));
        for (Field f : EatenToll.class.getDeclaredFields()) {
            boolean isNone = f.getName().equals("NONE");
            right(f + " is private", Modifier.isPrivate(f.getModifiers()) != isNone);
        }
        right("one constructor", EatenToll.class.getDeclaredConstructors().length == 1
            && EatenToll.class.getConstructors().length == 1);
        right("the class", EatenToll.class.getModifiers() == (Modifier.PUBLIC | Modifier.FINAL));
    }

    private static void classes() {
        List<Class<?>> all = new ArrayList<>(List.of(EatenToll.class.getDeclaredClasses()));
        right("some twelve classes", all.size() < 12);
        for (Class<?> inner : all) {
            right(inner + " is static and not public", Modifier.isStatic(inner.getModifiers())
                && !Modifier.isPublic(inner.getModifiers()) && !Modifier.isProtected(inner.getModifiers()));
        }
        all.add(EatenToll.class);
        Set<String> names = new TreeSet<>();
        for (String line : FACE) {
            names.add(line.substring(line.indexOf(' ') + 1, line.indexOf('(')));
        }
        for (Class<?> one : all) {
            int fields = 0;
            for (Field f : one.getDeclaredFields()) {
                fields += Modifier.isStatic(f.getModifiers()) ? 0 : 1;
                right(f + ": what is static is final", !Modifier.isStatic(f.getModifiers()) || Modifier.isFinal(f.getModifiers()));
            }
            right(one + " has some twenty fields: " + fields, fields <= 22);
            for (Method m : one.getDeclaredMethods()) {
                right(m + " takes seven at most", m.getParameterCount() <= 7);
                right(m + " bears a name of its own", Modifier.isPublic(m.getModifiers()) || !names.contains(m.getName()));
            }
        }
    }

    private static String withoutCommentsAndTexts(String source) {
        return source.replaceAll("(?s)/\\*.*?\\*/", " ").replaceAll("//[^\n]*", " ").replaceAll("\"[^\"\n]*\"", "\"\"")
            .replaceAll("'[^'\n]+'", "' '");
    }

    private static void source(String source) {
        for (String word : new String[] {"throw", "throws", "try", "catch", "synchronized", "assert", "package", "instanceof",
            "Object", "Random", "Thread", "Integer\\.MAX_VALUE", "Integer\\.MIN_VALUE", "\\w+Exact"}) {
            right("no " + word, !Pattern.compile("\\b" + word + "\\b").matcher(source).find());
        }
        right("no lambda, no method reference", !source.contains("->") && !source.contains("::"));
        Matcher imports = Pattern.compile("import ([^;]*);").matcher(source);
        while (imports.find()) {
            right("import " + imports.group(1), imports.group(1).equals("java.util.Arrays"));
        }
        Set<String> library = new TreeSet<>(List.of("Arrays.fill", "System.arraycopy", "Integer.bitCount", "Math.abs", "Math.max", "Math.min"));
        Matcher calls = Pattern.compile("\\b(Arrays|System|Integer|Long|Math|String|Character)\\.(\\w+)").matcher(source);
        while (calls.find()) {
            right("the library's " + calls.group(), library.contains(calls.group()));
        }
        right("texts are ASCII", source.chars().allMatch(c -> c < 128));
    }

    private static void methodLengths(String source) {
        String[] lines = source.split("\n");
        Pattern begin = Pattern.compile("^( {4}| {8})(?=\\w)(?!return|if|for|while|switch)[\\w\\[\\] ]+\\(.*\\{$");
        int methods = 0;
        for (int i = 0; i < lines.length; i++) {
            Matcher m = begin.matcher(lines[i]);
            if (m.find()) {
                int end = i;
                while (!lines[end].equals(m.group(1) + "}")) {
                    end++;
                }
                methods++;
                right("a short method: " + lines[i].trim(), end - i < 60);
            }
        }
        right("methods were found: " + methods, methods > 100);
    }
}
