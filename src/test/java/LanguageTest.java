import java.lang.reflect.Field;
import java.lang.reflect.Method;
import java.lang.reflect.Modifier;
import java.nio.charset.StandardCharsets;
import java.nio.file.Files;
import java.nio.file.Path;
import java.util.ArrayList;
import java.util.Arrays;
import java.util.List;
import java.util.Set;
import java.util.TreeSet;
import java.util.function.Supplier;
import java.util.regex.Matcher;
import java.util.regex.Pattern;

/** The face of the class, and those rules of LANGUAGE.md that a look at the class, its text, or many calls can tell. */
public final class LanguageTest {
    private static final String[] FACE = {"int row(int, int, int)", "int set(int, int, int)",
        "int copy(int, int, int, int, int)", "int drop(int)", "int feed(int)", "int lane()", "int fault()", "int undo()",
        "int moment(int)", "int setUp(int, int, int)", "int lay(int, int)", "int hoop(int)", "int ground(int)",
        "int force(int)", "int ahead(int, int)", "int fewest(int)", "int soonest(int)", "int heldFrom()",
        "int righted()", "int plan(int, int, int, int)", "int seen(int, int, int, int)", "int who(int, int, int, int)",
        "int falls()", "int mend(int)", "long miss(int, int, int, int, int)", "int drawn(int, int, int)",
        "int image(int)", "int restore(int)", "int kind(int)", "int as(int, int)", "int ask(int, int)",
        "int trace(int)", "int count(int)", "int status()"};
    private static final Set<String> LIBRARY = Set.of("java.util.Arrays", "java.util.ArrayList", "java.util.List",
        "java.util.Iterator");
    private static final Set<String> TYPES = Set.of("java.lang.String", "java.lang.StringBuilder", "java.lang.Integer",
        "java.util.ArrayList", "java.util.List", "java.util.Iterator", "void");
    /** The first line of a method of the class, or of one inside it. */
    private static final String METHOD = "( {4}| {8})(?!for |while |if |switch |else |do )\\w.*\\(.*\\{";

    public static void main(String[] args) throws Exception {
        String source = Files.readString(Path.of("src/main/java/HoopLane.java"), StandardCharsets.ISO_8859_1);
        String code = source.replaceAll("(?s)/\\*.*?\\*/", "").replaceAll("//[^\n]*", "")
            .replaceAll("'(\\\\.|[^\\\\])[^']*'", "0").replaceAll("\"([^\"\\\\]|\\\\.)*\"", "0");
        face();
        constants();
        noPrivateNamesake();
        classesInside(code);
        types();
        library(code);
        staticFields(code);
        refusedWords(code);
        anyArguments();
        sizes(source);
        outside(code);
        Due.end();
    }

    private static List<Class<?>> classes() {
        List<Class<?>> all = new ArrayList<>(List.of(HoopLane.class));
        for (int k = 0; k < all.size(); k++) {
            all.addAll(List.of(all.get(k).getDeclaredClasses()));
        }
        return all;
    }

    private static void finds(String what, String code, String words) {
        Matcher m = Pattern.compile(words).matcher(code);
        Due.is(what + (m.find() ? ": " + m.group() : ""), 0, m.reset().find() ? 1 : 0);
    }

    private static String signed(Method method) {
        String types = Arrays.toString(method.getParameterTypes());
        return method.getReturnType() + " " + method.getName() + "(" + types.substring(1, types.length() - 1) + ")";
    }

    // ---- rule 1

    private static void face() {
        Class<?> c = HoopLane.class;
        Due.holds("1: public and final", Modifier.isPublic(c.getModifiers()) && Modifier.isFinal(c.getModifiers()));
        Due.holds("1: no package", c.getPackageName().isEmpty());
        Due.holds("1: the constructor", c.getDeclaredConstructors().length == 1 && c.getConstructors().length == 1
            && c.getConstructors()[0].getParameterCount() == 0);
        TreeSet<String> open = new TreeSet<>();
        for (Method method : c.getDeclaredMethods()) {
            if (!Modifier.isPrivate(method.getModifiers()) && !method.isSynthetic()) {
                open.add((Modifier.isStatic(method.getModifiers()) ? "static " : "") + signed(method));
                Due.holds("1: " + method + " is public", Modifier.isPublic(method.getModifiers()));
            }
        }
        Due.holds("1: the methods of the face, and no other: " + open, open.equals(new TreeSet<>(List.of(FACE))));
        TreeSet<String> fields = new TreeSet<>();
        for (Field field : c.getDeclaredFields()) {
            if (!Modifier.isPrivate(field.getModifiers()) && !field.isSynthetic()) {
                fields.add(field.getName());
                int open4 = Modifier.PUBLIC | Modifier.STATIC | Modifier.FINAL;
                Due.holds("1: " + field + " is a constant", field.getModifiers() == open4 && field.getType() == int.class);
            }
        }
        Due.holds("1: the constants, and no other: " + fields, fields.equals(Set.of("NONE", "BAD", "STATE", "FULL")));
    }

    private static void constants() {
        Due.is("NONE", -1000000, HoopLane.NONE);
        Due.is("BAD", -1000001, HoopLane.BAD);
        Due.is("STATE", -1000002, HoopLane.STATE);
        Due.is("FULL", -1000003, HoopLane.FULL);
    }

    private static void noPrivateNamesake() {
        TreeSet<String> open = new TreeSet<>();
        for (String signature : FACE) {
            open.add(signature.replaceAll("\\w+ (\\w+)\\(.*", "$1"));
        }
        for (Class<?> c : classes()) {
            for (Method method : c.getDeclaredMethods()) {
                if (Modifier.isPrivate(method.getModifiers()) && !method.isSynthetic()) {
                    Due.holds("1: " + method + " has not the name of a public one", !open.contains(method.getName()));
                }
            }
        }
    }

    // ---- rules 2 to 6

    private static void classesInside(String code) {
        for (Class<?> c : classes()) {
            if (c != HoopLane.class) {
                Due.holds("2: " + c + " is static", Modifier.isStatic(c.getModifiers()));
                Due.holds("1: " + c + " is private or package-visible",
                    !Modifier.isPublic(c.getModifiers()) && !Modifier.isProtected(c.getModifiers()));
            }
        }
        finds("2: a method reference", code, "::");
        finds("2: a lambda", code.replaceAll("(case [^;{}]*?|default )->", ""), "->");
        finds("2: an anonymous class", code, "new \\w+(<\\w*>)?\\([^;{}]*\\) *\\{");
    }

    private static boolean isOfLanguage(Class<?> type) {
        Class<?> one = type;
        int dimensions = 0;
        while (one.isArray()) {
            one = one.getComponentType();
            dimensions++;
        }
        boolean own = classes().contains(one);
        return dimensions == 0 ? one.isPrimitive() || own || TYPES.contains(one.getName())
            : dimensions == 1 ? one.isPrimitive() || own : dimensions == 2 && one.isPrimitive() && one != boolean.class;
    }

    private static void types() {
        for (Class<?> c : classes()) {
            for (Field field : c.getDeclaredFields()) {
                Due.holds("3: the type of " + field, field.isSynthetic() || isOfLanguage(field.getType()));
            }
            for (Method method : c.getDeclaredMethods()) {
                Due.holds("3: the answer of " + method, method.isSynthetic() || isOfLanguage(method.getReturnType()));
                for (Class<?> type : method.getParameterTypes()) {
                    Due.holds("3: the parameters of " + method, method.isSynthetic() || isOfLanguage(type));
                }
            }
        }
    }

    private static void library(String code) {
        Matcher imports = Pattern.compile("import ([^;]*);").matcher(code);
        while (imports.find()) {
            Due.holds("4: import " + imports.group(1), LIBRARY.contains(imports.group(1)));
        }
        finds("4: of System", code, "\\bSystem\\.(?!arraycopy\\()\\w+");
        finds("4: of Arrays", code, "\\bArrays\\.(?!(copyOf|copyOfRange|fill)\\()\\w+");
        finds("4: a name that ends in Exact", code, "\\w+Exact\\b");
        finds("4: named in full", code.replaceAll("import [^;]*;", ""), "\\bjavax?\\.");
    }

    private static void staticFields(String code) {
        for (Class<?> c : classes()) {
            for (Field field : c.getDeclaredFields()) {
                if (Modifier.isStatic(field.getModifiers()) && !field.isSynthetic()) {
                    Class<?> of = field.getType().getComponentType();
                    boolean isRow = of == int.class || of == long.class || of == char.class || of == byte.class;
                    Due.holds("5: " + field + " is final", Modifier.isFinal(field.getModifiers()));
                    Due.holds("5: " + field + " is a constant, or an array of numbers", of == null || isRow
                        || of.isEnum());
                }
            }
        }
        finds("5: a static initialiser", code, "static\\s*\\{");
    }

    private static void refusedWords(String code) {
        finds("6: a word", code, "\\b(throw|throws|try|catch|finally|synchronized|assert)\\b");
    }

    // ---- rule 7

    /** No call throws, whatever its arguments, in whatever state. */
    private static void anyArguments() {
        List<Supplier<HoopLane>> states = List.of(HoopLane::new, Given::noLane, Given::rolling, Given::down, Given::home,
            LanguageTest::most);
        int[] many = {Integer.MIN_VALUE, -1000001, -2, -1, 0, 1, 2, 4, 5, 7, 8, 9, 16, 23, 24, 39, 40, 41, 256,
            Integer.MAX_VALUE - 1, Integer.MAX_VALUE};
        int[] some = {Integer.MIN_VALUE, -1, 0, 1, 7, 24, Integer.MAX_VALUE};
        for (Method method : HoopLane.class.getMethods()) {
            if (method.getDeclaringClass() == HoopLane.class) {
                for (Supplier<HoopLane> state : states) {
                    callAll(method, state, method.getParameterCount() > 3 ? some : many);
                }
            }
        }
    }

    private static void callAll(Method method, Supplier<HoopLane> state, int[] values) {
        Object[] arguments = new Object[method.getParameterCount()];
        int all = (int) Math.pow(values.length, arguments.length);
        HoopLane x = state.get();
        int thrown = 0;
        for (int k = 0; k < all; k++) {
            int rest = k;
            for (int i = 0; i < arguments.length; i++) {
                arguments[i] = values[rest % values.length];
                rest /= values.length;
            }
            x = k % 200 == 0 ? state.get() : x;
            try {
                method.invoke(x, arguments);
            } catch (ReflectiveOperationException e) {
                thrown++;
                System.out.println(method.getName() + Arrays.toString(arguments) + " threw " + e.getCause());
            }
        }
        Due.is(signed(method) + ": how many calls threw", 0, thrown);
    }

    /** All that there is room for. */
    private static HoopLane most() {
        HoopLane x = Due.told("h9,4,5,3;g" + "ds".repeat(12) + ";v5;i5;o5;b5;t5;");
        for (int row = 0; row < 8; row++) {
            x.row(row, row % 3, 40);
            x.set(row, 1, row - 1);
            x.set(row, 24, 1000000);
        }
        x.image(0);
        x.image(1);
        for (int k = 0; k < 30; k++) {
            x.lay(k % 24, k % 6);
        }
        Due.feed(x, "9".repeat(100));
        x.ask(1, 0);
        return x;
    }

    // ---- rules 11, 13

    private static void sizes(String source) {
        int all = classes().size();
        Due.holds("11: " + all + " classes are some twelve", all <= 13);
        for (Class<?> c : classes()) {
            int fields = 0;
            for (Field field : c.getDeclaredFields()) {
                fields += Modifier.isStatic(field.getModifiers()) ? 0 : 1;
            }
            Due.holds("11: " + fields + " fields of " + c + " are some twenty", fields <= 22);
            for (Method method : c.getDeclaredMethods()) {
                Due.holds("11: " + method + " takes seven parameters at most", method.getParameterCount() <= 7);
            }
        }
        int start = 0;
        String[] lines = source.split("\n");
        for (int k = 0; k < lines.length; k++) {
            if (lines[k].matches(METHOD)) {
                start = k;
            }
            if (lines[k].matches("( {4}| {8})\\}") && !lines[start].contains("class ")) {
                Due.holds("11: the method of line " + (start + 1) + " has some sixty lines", k - start < 66);
            }
        }
    }

    private static void outside(String code) {
        finds("13: a clock, a draw, a file, a thread", code,
            "\\b(Thread|Random|random|File|Files|Socket|Instant|nanoTime|currentTimeMillis|getenv|Runtime|Process)\\b");
    }
}
