import java.lang.reflect.Constructor;
import java.lang.reflect.Field;
import java.lang.reflect.Method;
import java.lang.reflect.Modifier;
import java.nio.file.Files;
import java.nio.file.Path;
import java.util.Arrays;
import java.util.Set;
import java.util.TreeSet;
import java.util.regex.Matcher;
import java.util.regex.Pattern;

// The public face is the document's, and the source keeps to those rules of LANGUAGE.md that can be seen in its words.
public final class CartsDownHillFace {
    private static final String FACE = "letters(long) blank() fault(int) hill() cart() cell(int,int) about(int,int) "
        + "loss(int,int,int) as(int,int,int) weigh(int,int) grip(int) brake(int,int) run(int,int,int) "
        + "pace(int,int,int) lost(int,int,int) bestBrakes(int,int,int) bestPush(int,int,int) work(int,int,int,int) "
        + "weighed(int,int,int) close(int,int) farthest(int,int) coast(int,int,int) rubs() chance(int,int,int,int) "
        + "wins(int,int,int,int,int,int,int,int) plan(int,int,int,int,int,int) stays(int,int,int,int,int) "
        + "straw(int,int,int,int) image() restore() count(int) digest()";

    private static int wrong = 0;

    private static void due(String what, Object got, Object want) {
        if (!got.equals(want)) {
            wrong++;
            System.out.println(what + ": is " + got + ", due is " + want);
        }
    }

    public static void main(String[] args) throws Exception {
        methods();
        constants();
        members();
        words();
        sizes();
        made();
        System.out.println(wrong == 0 ? "the face is as due" : wrong + " wrong");
        if (wrong != 0) {
            System.exit(1);
        }
    }

    private static void methods() {
        Set<String> want = new TreeSet<>(Arrays.asList(FACE.split(" ")));
        Set<String> got = new TreeSet<>();
        for (Method m : CartsDownHill.class.getDeclaredMethods()) {
            if (!Modifier.isPrivate(m.getModifiers())) {
                StringBuilder types = new StringBuilder();
                for (Class<?> type : m.getParameterTypes()) {
                    types.append(types.length() == 0 ? "" : ",").append(type.getName());
                }
                got.add(m.getName() + "(" + types + ")");
                boolean isLong = m.getName().equals("stays") || m.getName().equals("digest");
                due("answer of " + m.getName(), m.getReturnType(), isLong ? long.class : int.class);
                due("static " + m.getName(), Modifier.isStatic(m.getModifiers()), false);
                due("public " + m.getName(), Modifier.isPublic(m.getModifiers()), true);
            }
        }
        due("methods", got, want);
    }

    private static void constants() throws Exception {
        String[] names = {"NONE", "UNKNOWN", "OUTSIDE", "STATE", "FULL"};
        int[] values = {-1, -101, -102, -103, -104};
        for (int i = 0; i < names.length; i++) {
            due(names[i], CartsDownHill.class.getField(names[i]).getInt(null), values[i]);
        }
        due("public fields", CartsDownHill.class.getFields().length, names.length);
    }

    private static void members() {
        due("public final", CartsDownHill.class.getModifiers(), Modifier.PUBLIC | Modifier.FINAL);
        Constructor<?>[] made = CartsDownHill.class.getDeclaredConstructors();
        due("constructors", made.length, 1);
        due("constructor's parameters", made[0].getParameterCount(), 0);
        due("constructor is public", Modifier.isPublic(made[0].getModifiers()), true);
        for (Field f : CartsDownHill.class.getDeclaredFields()) {
            boolean told = Modifier.isPublic(f.getModifiers()) || Modifier.isPrivate(f.getModifiers());
            due("field " + f.getName(), told, true);
        }
        Set<String> calls = new TreeSet<>();
        for (String call : FACE.split(" ")) {
            calls.add(call.substring(0, call.indexOf('(')));
        }
        for (Class<?> inside : CartsDownHill.class.getDeclaredClasses()) {
            due("static " + inside, Modifier.isStatic(inside.getModifiers()), true);
            for (Method m : inside.getDeclaredMethods()) {
                due("the name of a call: " + m, calls.contains(m.getName()), false);
                due("few parameters: " + m, m.getParameterCount() <= 7, true);
            }
            checkStatics(inside);
        }
        for (Method m : CartsDownHill.class.getDeclaredMethods()) {
            boolean twice = Modifier.isPrivate(m.getModifiers()) && calls.contains(m.getName());
            due("a private method with the name of a call: " + m, twice, false);
        }
        checkStatics(CartsDownHill.class);
    }

    private static void checkStatics(Class<?> of) {
        for (Field f : of.getDeclaredFields()) {
            if (Modifier.isStatic(f.getModifiers())) {
                due("static final " + f, Modifier.isFinal(f.getModifiers()), true);
            }
        }
    }

    private static String source() throws Exception {
        return Files.readString(Path.of("src/main/java/CartsDownHill.java"));
    }

    private static String withoutComments(String source) {
        return source.replaceAll("(?s)/\\*.*?\\*/", " ").replaceAll("//[^\n]*", " ");
    }

    private static void words() throws Exception {
        String source = source();
        String code = withoutComments(source);
        Matcher out = Pattern.compile("\\b(throw|throws|try|catch|synchronized|assert|package|float|double|Exact|"
            + "Object|Random|Thread|equals|hashCode|toString)\\b|->|::|\\w+Exact\\b").matcher(code);
        while (out.find()) {
            due("a word that is ruled out", out.group(), "");
        }
        Matcher imports = Pattern.compile("import ([^;]*);").matcher(code);
        while (imports.find()) {
            due("import", imports.group(1), "java.util.Arrays");
        }
        boolean plain = source.chars().allMatch(c -> c == '\n' || (c >= 32 && c < 127));
        due("plain letters alone", plain, true);
    }

    /** Rule 11: some twelve classes, some twenty fields of a class, some sixty lines of a method. */
    private static void sizes() throws Exception {
        Class<?>[] inside = CartsDownHill.class.getDeclaredClasses();
        due("at most twelve classes", inside.length < 12, true);
        checkFields(CartsDownHill.class);
        for (Class<?> one : inside) {
            checkFields(one);
        }
        String[] lines = source().split("\n");
        int methods = 0;
        for (int from = 0; from < lines.length; from++) {
            Matcher head = Pattern.compile("( {4}| {8})(public|private) [^=]*\\(.*\\) \\{").matcher(lines[from]);
            if (head.matches()) {
                methods++;
                int to = from;
                while (to < lines.length && !lines[to].equals(head.group(1) + "}")) {
                    to++;
                }
                due("at most sixty lines: " + lines[from].trim(), to - from < 60, true);
            }
        }
        due("methods were found", methods > 60, true);
    }

    private static void checkFields(Class<?> of) {
        int fields = 0;
        for (Field f : of.getDeclaredFields()) {
            if (!Modifier.isStatic(f.getModifiers())) {
                fields++;
            }
        }
        due("at most twenty fields: " + of, fields <= 20, true);
    }

    /** All objects are made with the object itself: no call makes one, so no run of calls can fill the room. */
    private static void made() throws Exception {
        String code = withoutComments(source());
        int from = code.indexOf("public CartsDownHill() {");
        int to = code.indexOf("\n    }", from);
        due("the constructor was found", from > 0 && to > from, true);
        for (String line : (code.substring(0, from) + code.substring(to)).split("\n")) {
            boolean making = Pattern.compile("\\bnew\\b|\\.clone\\(|copyOf|List|StringBuilder").matcher(line).find();
            boolean withObject = line.matches("\\s+private final [\\w\\[\\]]+ \\w+ = new .*;");
            due("made outside of a constructor: " + line.trim(), making && !withObject, false);
        }
    }
}
