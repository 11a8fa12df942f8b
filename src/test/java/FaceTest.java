import java.io.IOException;
import java.lang.reflect.Constructor;
import java.lang.reflect.Field;
import java.lang.reflect.Method;
import java.lang.reflect.Modifier;
import java.nio.file.Files;
import java.nio.file.Path;
import java.util.Random;
import java.util.TreeSet;
import java.util.regex.Matcher;
import java.util.regex.Pattern;

/** The public face is the document's and no more; no call throws, whatever its numbers are. */
public final class FaceTest {
    private static final int[] WILD = {0, 1, 2, 3, 7, 8, 9, 12, 39, 40, 59, 60, 100, 299, 300, 301, 399, 400, 401,
        1000, 1001, -1, -2, -3, Integer.MAX_VALUE, Integer.MIN_VALUE};

    public static void main(String[] args) throws IOException {
        constants();
        members();
        form();
        language();
        noThrow();
        Check.end("FaceTest");
    }

    private static void constants() {
        Check.due("BAD", TokenMachines.BAD, -1);
        Check.due("NO", TokenMachines.NO, -2);
        Check.due("FULL", TokenMachines.FULL, -3);
    }

    /** With their modifiers, as tests without a package would see package-visible ones, too. */
    private static void members() {
        TreeSet<String> seen = new TreeSet<>();
        for (Field field : TokenMachines.class.getDeclaredFields()) {
            if (!Modifier.isPrivate(field.getModifiers())) {
                seen.add(field.toString().replace("TokenMachines.", ""));
            }
        }
        for (Method method : TokenMachines.class.getDeclaredMethods()) {
            if (!Modifier.isPrivate(method.getModifiers())) {
                seen.add(method.toString().replace("TokenMachines.", ""));
            }
        }
        for (Constructor<?> constructor : TokenMachines.class.getDeclaredConstructors()) {
            seen.add(constructor.toString());
        }
        Check.due("the face", String.join("; ", seen), "public TokenMachines(); public int cost(int); "
                + "public int count(int); public int feed(int,long); public int links(boolean); "
                + "public int longest(int,int); public int match(int); public int pattern(); "
                + "public int same(int,int); public int sign(int,int); public int strange(int); public int text(); "
                + "public int token(int,int); public int tokens(int,int,int); public int word(int); "
                + "public static final int BAD; public static final int FULL; public static final int NO");
        Check.due("final", Modifier.toString(TokenMachines.class.getModifiers()), "public final");
    }

    /** What LANGUAGE.md says of classes, fields and methods in numbers, as far as the compiled class tells it. */
    private static void form() {
        Class<?>[] inside = TokenMachines.class.getDeclaredClasses();
        Check.due("some twelve classes at most", inside.length < 12 ? 1 : 0, 1);
        formOf(TokenMachines.class);
        for (Class<?> nested : inside) {
            int hidden = nested.getModifiers() & (Modifier.PUBLIC | Modifier.PROTECTED);
            Check.due(nested + " is static", Modifier.isStatic(nested.getModifiers()) ? 1 : 0, 1);
            Check.due(nested + " is not seen", hidden, 0);
            formOf(nested);
        }
    }

    private static void formOf(Class<?> one) {
        int many = 0;
        for (Field field : one.getDeclaredFields()) {
            if (Modifier.isStatic(field.getModifiers())) {
                Check.due(field + " is final", Modifier.isFinal(field.getModifiers()) ? 1 : 0, 1);
            } else {
                many++;
            }
        }
        Check.due("some twenty fields at most in " + one, many <= 20 ? 1 : 0, 1);
        TreeSet<String> open = new TreeSet<>();
        for (Method method : TokenMachines.class.getDeclaredMethods()) {
            if (Modifier.isPublic(method.getModifiers())) {
                open.add(method.getName());
            }
        }
        for (Method method : one.getDeclaredMethods()) {
            Check.due("seven parameters at most: " + method, method.getParameterCount() <= 7 ? 1 : 0, 1);
            boolean same = Modifier.isPrivate(method.getModifiers()) && open.contains(method.getName());
            Check.due("a name of its own: " + method, same ? 1 : 0, 0);
        }
    }

    /** The words and signs that LANGUAGE.md leaves out; .ci/run starts the test in the project's folder. */
    private static void language() throws IOException {
        String source = Files.readString(Path.of("src/main/java/TokenMachines.java"));
        String bare = source.replaceAll("(?s)/\\*.*?\\*/|//[^\n]*", "");
        Matcher matcher = Pattern.compile("\\b(throws?|try|catch|synchronized|assert|package|protected|lambda|"
                + "System\\.(?!arraycopy)|Thread|Random|Exact|hashCode|toString|float|double)\\b|->|::|@").matcher(
                bare.replaceAll("'(?:\\\\.|[^\\\\])'", "0"));
        Check.due("a word that is left out", matcher.find() ? matcher.group() : "none", "none");
        Check.due("imports", bare.replaceAll("(?s)(.*?)public final class.*", "$1").trim(), "import java.util.Arrays;");
    }

    private static int wild(Random random) {
        return random.nextInt(4) == 0 ? random.nextInt() : WILD[random.nextInt(WILD.length)];
    }

    private static int call(TokenMachines m, Random random, String signs) {
        switch (random.nextInt(15)) {
            case 0:
                return m.text();
            case 1:
                return m.pattern();
            case 2:
                return m.word(wild(random));
            case 3:
                return m.strange(wild(random));
            case 4:
                return m.links(random.nextBoolean());
            case 5:
                return m.longest(wild(random), random.nextInt(3));
            case 6:
                return m.tokens(random.nextInt(11) - 1, wild(random), wild(random));
            case 7:
                return m.token(wild(random), random.nextInt(5) - 1);
            case 8:
                return m.sign(wild(random), wild(random));
            case 9:
                return m.same(wild(random), wild(random));
            case 10:
                return m.cost(wild(random));
            case 11:
                return m.match(wild(random));
            case 12:
                return m.count(wild(random));
            default:
                return Check.feed(m, signs);
        }
    }

    private static String signs(Random random) {
        String alphabet = random.nextBoolean() ? "ab*+?|()[]^-\\. " : "aaab/@1._, \n\u0000\u00ff";
        StringBuilder all = new StringBuilder();
        int length = 1 + random.nextInt(random.nextInt(4) == 0 ? 100 : 12);
        for (int i = 0; i < length; i++) {
            all.append(alphabet.charAt(random.nextInt(alphabet.length())));
        }
        return all.toString();
    }

    /** Two objects with the same calls: each call ends, and both answer the same. */
    private static void noThrow() {
        for (int seed = 0; seed < 400; seed++) {
            Random one = new Random(seed);
            Random other = new Random(seed);
            TokenMachines m = new TokenMachines();
            TokenMachines n = new TokenMachines();
            for (int i = 0; i < 512; i++) {
                int first = call(m, one, signs(one));
                int second = call(n, other, signs(other));
                if (first != second) {
                    Check.due("the same calls, seed " + seed, second, first);
                }
            }
            Check.due("the same end, seed " + seed, Check.shown(m), Check.shown(n));
        }
    }
}
