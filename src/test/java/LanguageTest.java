import java.lang.reflect.Field;
import java.lang.reflect.Method;
import java.lang.reflect.Modifier;
import java.nio.charset.StandardCharsets;
import java.nio.file.Files;
import java.nio.file.Path;
import java.util.Arrays;
import java.util.List;
import java.util.TreeSet;
import java.util.function.Supplier;
import java.util.regex.Matcher;
import java.util.regex.Pattern;

/** The face of the class, and those rules of LANGUAGE.md that a look at the class and its text can tell. */
public final class LanguageTest {
    private static final String[] FACE = {"int row(int, int, int)", "int set(int, int, int)",
        "int copy(int, int, int, int, int)", "int drop(int)", "int feed(int)", "int lane()", "int fault()", "int undo()",
        "int moment(int)", "int setUp(int, int, int)", "int lay(int, int)", "int hoop(int)", "int ground(int)",
        "int force(int)", "int ahead(int, int)", "int fewest(int)", "int soonest(int)", "int heldFrom()",
        "int righted()", "int plan(int, int, int, int)", "int seen(int, int, int, int)", "int who(int, int, int, int)",
        "int falls()", "int mend(int)", "long miss(int, int, int, int, int)", "int drawn(int, int, int)",
        "int image(int)", "int restore(int)", "int kind(int)", "int as(int, int)", "int ask(int, int)",
        "int trace(int)", "int count(int)", "int status()"};
    private static final String[] REFUSED = {"throw", "throws", "try", "catch", "finally", "synchronized", "assert",
        "native", "volatile", "transient", "var", "goto", "System\\.(?!arraycopy)\\w+", "\\w+Exact", "equals", "hashCode",
        "toString", "Object", "Thread", "Random", "protected"};

    /** The first line of a method of the class, or of one inside it. */
    private static final String METHOD = "( {4}| {8})(?!for |while |if |switch |else |do )\\w.*\\(.*\\{";

    public static void main(String[] args) throws Exception {
        face();
        classes();
        constants();
        String source = Files.readString(Path.of("src/main/java/HoopLane.java"), StandardCharsets.ISO_8859_1);
        text(source);
        made(source);
        anyArguments();
        Due.end();
    }

    private static String signed(Method method) {
        String types = Arrays.toString(method.getParameterTypes());
        return method.getReturnType() + " " + method.getName() + "(" + types.substring(1, types.length() - 1) + ")";
    }

    private static void face() {
        Class<?> c = HoopLane.class;
        Due.holds("public and final", Modifier.isPublic(c.getModifiers()) && Modifier.isFinal(c.getModifiers()));
        Due.holds("of no other class", c.getSuperclass() == Object.class && c.getInterfaces().length == 0);
        Due.holds("no package", c.getPackageName().isEmpty());
        Due.holds("one constructor", c.getDeclaredConstructors().length == 1 && c.getConstructors().length == 1
            && c.getConstructors()[0].getParameterCount() == 0);
        TreeSet<String> open = new TreeSet<>();
        for (Method method : c.getDeclaredMethods()) {
            if (!Modifier.isPrivate(method.getModifiers())) {
                Due.holds(method + " is of the object", !Modifier.isStatic(method.getModifiers()));
                open.add(signed(method));
            }
        }
        Due.holds("the methods of the face, and no other: " + open, open.equals(new TreeSet<>(List.of(FACE))));
        TreeSet<String> fields = new TreeSet<>();
        for (Field field : c.getDeclaredFields()) {
            if (!Modifier.isPrivate(field.getModifiers())) {
                fields.add(field.getName());
                Due.holds(field + " is a constant", field.getModifiers() == (Modifier.PUBLIC | Modifier.STATIC | Modifier.FINAL)
                    && field.getType() == int.class);
            }
        }
        Due.holds("the constants, and no other: " + fields, fields.equals(new TreeSet<>(List.of("NONE", "BAD", "STATE", "FULL"))));
    }

    private static void classes() {
        TreeSet<String> open = new TreeSet<>();
        for (String signature : FACE) {
            open.add(signature.replaceAll("\\w+ (\\w+)\\(.*", "$1"));
        }
        Class<?>[] inside = HoopLane.class.getDeclaredClasses();
        Due.holds("at most twelve classes", inside.length < 12);
        for (Class<?> c : inside) {
            Due.holds(c + " is static and not public", Modifier.isStatic(c.getModifiers()) && !Modifier.isPublic(c.getModifiers()));
            Due.holds(c + " has no classes", c.getDeclaredClasses().length == 0);
            checkClass(c, open, false);
        }
        checkClass(HoopLane.class, open, true);
    }

    private static void checkClass(Class<?> c, TreeSet<String> open, boolean outer) {
        for (Method method : c.getDeclaredMethods()) {
            Due.holds(method + ": at most seven parameters", method.getParameterCount() <= 7);
            boolean isPrivate = !outer || Modifier.isPrivate(method.getModifiers());
            Due.holds(method + ": not the name of a public one", !isPrivate || !open.contains(method.getName()));
        }
        int fields = 0;
        for (Field field : c.getDeclaredFields()) {
            if (Modifier.isStatic(field.getModifiers())) {
                Due.holds(field + " is final", Modifier.isFinal(field.getModifiers()));
            } else {
                fields++;
            }
        }
        Due.holds(c + ": at most twenty fields", fields <= 20);
    }

    private static void constants() {
        Due.is("NONE", -1000000, HoopLane.NONE);
        Due.is("BAD", -1000001, HoopLane.BAD);
        Due.is("STATE", -1000002, HoopLane.STATE);
        Due.is("FULL", -1000003, HoopLane.FULL);
    }

    private static void text(String source) {
        for (int k = 0; k < source.length(); k++) {
            if (source.charAt(k) > 126) {
                Due.holds("a sign that is not ASCII at " + k, false);
            }
        }
        String code = source.replaceAll("(?s)/\\*.*?\\*/", "").replaceAll("//[^\n]*", "").replaceAll("'(\\\\.|.)'", "0");
        for (String word : REFUSED) {
            Matcher m = Pattern.compile("\\b" + word + "\\b").matcher(code);
            Due.holds("no " + word, !m.find());
        }
        Due.holds("no lambda, no method reference", !code.contains("->") && !code.contains("::"));
        Due.holds("no text", !code.contains("\""));
        Matcher imports = Pattern.compile("import ([^;]*);").matcher(code);
        while (imports.find()) {
            Due.holds("import " + imports.group(1), imports.group(1).equals("java.util.Arrays"));
        }
        int start = 0;
        String[] lines = source.split("\n");
        for (int k = 0; k < lines.length; k++) {
            if (lines[k].matches(METHOD)) {
                start = k;
            }
            if (lines[k].matches("( {4}| {8})\\}")) {
                Due.holds("line " + (start + 1) + ": at most sixty lines", k - start < 60 || lines[start].contains("class"));
            }
        }
    }

    /** No call makes an object: what is made stands in a field's initialiser, or in a constructor. */
    private static void made(String source) {
        String in = "";
        for (String line : source.split("\n")) {
            if (line.matches(METHOD)) {
                in = line.trim();
            }
            boolean isField = line.matches("( {4}| {8})(private )?(static )?final .*");
            boolean isConstructor = in.matches("(public HoopLane|Acts)\\(\\) \\{");
            if (line.matches(".*\\bnew\\b.*") && !line.matches(" *(/?\\*|//).*")) {
                Due.holds("made within a call: " + line.trim(), isField || isConstructor);
            }
        }
    }

    /** Rule 7: no call throws, whatever its arguments, in whatever state. */
    private static void anyArguments() {
        List<Supplier<HoopLane>> states = List.of(HoopLane::new, Given::noLane, Given::rolling, Given::down, Given::home,
            LanguageTest::most);
        int[] many = {Integer.MIN_VALUE, -1000001, -2, -1, 0, 1, 2, 4, 5, 7, 8, 9, 16, 23, 24, 39, 40, 41, 256,
            Integer.MAX_VALUE - 1, Integer.MAX_VALUE};
        int[] some = {Integer.MIN_VALUE, -1, 0, 1, 7, 24, Integer.MAX_VALUE};
        for (Method method : HoopLane.class.getMethods()) {
            if (method.getDeclaringClass() == HoopLane.class) {
                for (Supplier<HoopLane> state : states) {
                    callAll(method, state, method.getParameterCount() > 3 ? some : many);
                }
            }
        }
    }

    private static void callAll(Method method, Supplier<HoopLane> state, int[] values) {
        Object[] arguments = new Object[method.getParameterCount()];
        int all = (int) Math.pow(values.length, arguments.length);
        HoopLane x = state.get();
        int thrown = 0;
        for (int k = 0; k < all; k++) {
            int rest = k;
            for (int i = 0; i < arguments.length; i++) {
                arguments[i] = values[rest % values.length];
                rest /= values.length;
            }
            x = k % 200 == 0 ? state.get() : x;
            try {
                method.invoke(x, arguments);
            } catch (ReflectiveOperationException e) {
                thrown++;
                System.out.println(method.getName() + Arrays.toString(arguments) + " threw " + e.getCause());
            }
        }
        Due.is(signed(method) + ": how many calls threw", 0, thrown);
    }

    /** All that there is room for. */
    private static HoopLane most() {
        HoopLane x = Due.told("h9,4,5,3;g" + "ds".repeat(12) + ";v5;i5;o5;b5;t5;");
        for (int row = 0; row < 8; row++) {
            x.row(row, row % 3, 40);
            x.set(row, 1, row - 1);
            x.set(row, 24, 1000000);
        }
        x.image(0);
        x.image(1);
        for (int k = 0; k < 30; k++) {
            x.lay(k % 24, k % 6);
        }
        Due.feed(x, "9".repeat(100));
        x.ask(1, 0);
        return x;
    }
}
