import java.lang.reflect.InvocationTargetException;
import java.lang.reflect.Method;
import java.util.ArrayList;
import java.util.Comparator;
import java.util.List;

/** No call throws, whatever is asked in whatever state. */
public final class ExtremesTest {
    private static final int[] INTS = {Integer.MIN_VALUE, Integer.MIN_VALUE + 1, -1000000, -33, -32, -2, -1, 0, 1, 2, 3, 4, 5, 6,
        7, 8, 9, 10, 12, 13, 15, 18, 19, 20, 23, 24, 25, 29, 30, 31, 32, 33, 63, 99, 100, 127, 128, 240, 241, 255, 256, 257, 1000,
        2000, 65535, Integer.MAX_VALUE - 1, Integer.MAX_VALUE, 0x64697368, 0x3b3b3b3b, 0x28282828, 0x2b312b31};
    private static final String[] TEXTS = {"", "dish a 1 1 1;", "man m 0 0 0 0;",
        "dish a 9 99 999; man m 99 0 9 999; law 0 a = 6; law 1 a = left * left * left * left / (hour - 3); belly b 99 99;",
        "dish a 1 1 9; dish b 2 2 9; dish c 3 3 9; dish d 4 4 9; man m 50 0 5 1; man n 50 0 5 2 hates a; man o 50 0 5 3 ill b 1;"
            + "man p 50 0 5 4 fast 3 9; man q 50 0 5 5; man r 50 0 5 6; man s 50 0 5 7; man t 50 0 5 8; law 0 a = ahead; law 0 b = 6;"
            + "law 0 c = room / (full - 5); law 0 d = 3; law 1 a = 6; law 1 b = hour; law 1 c = left; law 1 d = 2; belly u 9 9;"
            + "belly v 8 8; belly w 7 7; belly x 6 6; belly y 50 60; belly z 40 1; goes m 0; goes n 1; owe m n 5; owe n o 6;"};

    private static long seed = 20261118;

    public static void main(String[] args) throws IllegalAccessException {
        List<Method> face = new ArrayList<>();
        for (Method m : EatenToll.class.getDeclaredMethods()) {
            if (m.getModifiers() == java.lang.reflect.Modifier.PUBLIC) {
                face.add(m);
            }
        }
        face.sort(Comparator.comparing(Method::getName));
        for (int run = 0; run < 300; run++) {
            EatenToll x = new EatenToll();
            for (int call = 0; call < 500; call++) {
                if (call % 100 == 0) {
                    x.back(x.count(8));
                    Check.put(x, TEXTS[below(TEXTS.length)]);
                    Check.due("read()", 0, x.read());
                }
                ask(x, face.get(below(face.size())));
            }
        }
        Check.end();
    }

    private static int below(int n) {
        seed = seed * 6364136223846793005L + 1442695040888963407L;
        return (int) ((seed >>> 33) % n);
    }

    private static void ask(EatenToll x, Method m) throws IllegalAccessException {
        Object[] arguments = new Object[m.getParameterCount()];
        boolean small = below(3) > 0;
        StringBuilder told = new StringBuilder(m.getName());
        for (int i = 0; i < arguments.length; i++) {
            boolean flag = m.getParameterTypes()[i] == boolean.class;
            arguments[i] = flag ? (Object) (below(2) == 0) : (Object) (small ? below(9) : INTS[below(INTS.length)]);
            told.append(' ').append(arguments[i]);
        }
        try {
            Object answer = m.invoke(x, arguments);
            Check.due(told + " answers", true, answer != null);
        } catch (InvocationTargetException thrown) {
            System.out.println(told + " threw " + thrown.getCause());
            Check.due(told + " throws", 0, 1);
        }
    }
}
