import java.lang.reflect.Field;
import java.lang.reflect.Method;
import java.lang.reflect.Modifier;
import java.nio.charset.StandardCharsets;
import java.nio.file.Files;
import java.nio.file.Path;
import java.util.Arrays;
import java.util.List;
import java.util.TreeSet;
import java.util.regex.Matcher;
import java.util.regex.Pattern;

/** The face of the class, and those rules of LANGUAGE.md that a look at the class and its text can tell. */
public final class LanguageTest {
    private static final String[] FACE = {"int row(int, int, int)", "int set(int, int, int)",
        "int copy(int, int, int, int, int)", "int drop(int)", "int feed(int)", "int lane()", "int fault()", "int undo()",
        "int moment(int)", "int setUp(int, int, int)", "int lay(int, int)", "int hoop(int)", "int ground(int)",
        "int force(int)", "int ahead(int, int)", "int fewest(int)", "int soonest(int)", "int heldFrom()",
        "int righted()", "int plan(int, int, int, int)", "int seen(int, int, int, int)", "int who(int, int, int, int)",
        "int falls()", "int mend(int)", "long miss(int, int, int, int, int)", "int drawn(int, int, int)",
        "int image(int)", "int restore(int)", "int kind(int)", "int as(int, int)", "int ask(int, int)",
        "int trace(int)", "int count(int)", "int status()"};
    private static final String[] REFUSED = {"throw", "throws", "try", "catch", "finally", "synchronized", "assert",
        "native", "volatile", "transient", "var", "goto", "System\\.(?!arraycopy)\\w+", "\\w+Exact", "equals", "hashCode",
        "toString", "Object", "Thread", "Random", "protected"};

    public static void main(String[] args) throws Exception {
        face();
        classes();
        constants();
        text(Files.readString(Path.of("src/main/java/HoopLane.java"), StandardCharsets.ISO_8859_1));
        Due.end();
    }

    private static void holds(String what, boolean it) {
        Due.is(what, 1, it ? 1 : 0);
    }

    private static String signed(Method method) {
        String types = Arrays.toString(method.getParameterTypes());
        return method.getReturnType() + " " + method.getName() + "(" + types.substring(1, types.length() - 1) + ")";
    }

    private static void face() {
        Class<?> c = HoopLane.class;
        holds("public and final", Modifier.isPublic(c.getModifiers()) && Modifier.isFinal(c.getModifiers()));
        holds("of no other class", c.getSuperclass() == Object.class && c.getInterfaces().length == 0);
        holds("no package", c.getPackageName().isEmpty());
        holds("one constructor", c.getDeclaredConstructors().length == 1 && c.getConstructors().length == 1
            && c.getConstructors()[0].getParameterCount() == 0);
        TreeSet<String> open = new TreeSet<>();
        for (Method method : c.getDeclaredMethods()) {
            if (!Modifier.isPrivate(method.getModifiers())) {
                holds(method + " is of the object", !Modifier.isStatic(method.getModifiers()));
                open.add(signed(method));
            }
        }
        holds("the methods of the face, and no other: " + open, open.equals(new TreeSet<>(List.of(FACE))));
        TreeSet<String> fields = new TreeSet<>();
        for (Field field : c.getDeclaredFields()) {
            if (!Modifier.isPrivate(field.getModifiers())) {
                fields.add(field.getName());
                holds(field + " is a constant", field.getModifiers() == (Modifier.PUBLIC | Modifier.STATIC | Modifier.FINAL)
                    && field.getType() == int.class);
            }
        }
        holds("the constants, and no other: " + fields, fields.equals(new TreeSet<>(List.of("NONE", "BAD", "STATE", "FULL"))));
    }

    private static void classes() {
        TreeSet<String> open = new TreeSet<>();
        for (String signature : FACE) {
            open.add(signature.replaceAll("\\w+ (\\w+)\\(.*", "$1"));
        }
        Class<?>[] inside = HoopLane.class.getDeclaredClasses();
        holds("at most twelve classes", inside.length < 12);
        for (Class<?> c : inside) {
            holds(c + " is static and not public", Modifier.isStatic(c.getModifiers()) && !Modifier.isPublic(c.getModifiers()));
            holds(c + " has no classes", c.getDeclaredClasses().length == 0);
            checkClass(c, open, false);
        }
        checkClass(HoopLane.class, open, true);
    }

    private static void checkClass(Class<?> c, TreeSet<String> open, boolean outer) {
        for (Method method : c.getDeclaredMethods()) {
            holds(method + ": at most seven parameters", method.getParameterCount() <= 7);
            boolean isPrivate = !outer || Modifier.isPrivate(method.getModifiers());
            holds(method + ": not the name of a public one", !isPrivate || !open.contains(method.getName()));
        }
        int fields = 0;
        for (Field field : c.getDeclaredFields()) {
            if (Modifier.isStatic(field.getModifiers())) {
                holds(field + " is final", Modifier.isFinal(field.getModifiers()));
            } else {
                fields++;
            }
        }
        holds(c + ": at most twenty fields", fields <= 20);
    }

    private static void constants() {
        Due.is("NONE", -1000000, HoopLane.NONE);
        Due.is("BAD", -1000001, HoopLane.BAD);
        Due.is("STATE", -1000002, HoopLane.STATE);
        Due.is("FULL", -1000003, HoopLane.FULL);
    }

    private static void text(String source) {
        for (int k = 0; k < source.length(); k++) {
            if (source.charAt(k) > 126) {
                holds("a sign that is not ASCII at " + k, false);
            }
        }
        String code = source.replaceAll("(?s)/\\*.*?\\*/", "").replaceAll("//[^\n]*", "").replaceAll("'(\\\\.|.)'", "0");
        for (String word : REFUSED) {
            Matcher m = Pattern.compile("\\b" + word + "\\b").matcher(code);
            holds("no " + word, !m.find());
        }
        holds("no lambda, no method reference", !code.contains("->") && !code.contains("::"));
        holds("no text", !code.contains("\""));
        Matcher imports = Pattern.compile("import ([^;]*);").matcher(code);
        while (imports.find()) {
            holds("import " + imports.group(1), imports.group(1).equals("java.util.Arrays"));
        }
        int start = 0;
        String[] lines = source.split("\n");
        for (int k = 0; k < lines.length; k++) {
            if (lines[k].matches("( {4}| {8})\\w.*\\(.*\\{")) {
                start = k;
            }
            if (lines[k].matches("( {4}| {8})\\}")) {
                holds("line " + (start + 1) + ": at most sixty lines", k - start < 60 || lines[start].contains("class"));
            }
        }
    }
}
