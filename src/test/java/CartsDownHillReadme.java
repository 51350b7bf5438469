import java.net.URL;
import java.net.URLClassLoader;
import java.nio.file.Files;
import java.nio.file.Path;
import java.util.ArrayList;
import java.util.List;
import java.util.regex.Matcher;
import java.util.regex.Pattern;
import javax.tools.ToolProvider;

// The Java on README.md's page is compiled and run: each call must answer what the comment behind it begins with.
public final class CartsDownHillReadme {
    private static final Pattern BLOCK = Pattern.compile("(?s)```java\n(.*?)```");
    private static final Pattern CALL = Pattern.compile("(x\\.\\w+\\([^;]*\\)); *// (-?\\w+).*");
    private static final int LEAST_CALLS = 20;

    private static int wrong = 0;
    private static int asked = 0;

    /** Called by what is made out of README.md. */
    public static void due(String call, long got, long want) {
        asked++;
        if (got != want) {
            wrong++;
            System.out.println("README.md: " + call + " answered " + got + ", it says " + want);
        }
    }

    public static void main(String[] args) throws Exception {
        Path room = Files.createTempDirectory("readme");
        Path source = room.resolve("Page.java");
        Files.writeString(source, program(Files.readString(Path.of("README.md"))));
        String classes = System.getProperty("java.class.path");
        int failed = ToolProvider.getSystemJavaCompiler().run(null, null, null,
            "-cp", classes, "-d", room.toString(), source.toString());
        if (failed == 0) {
            try (URLClassLoader loader = new URLClassLoader(new URL[] {room.toUri().toURL()})) {
                loader.loadClass("Page").getMethod("go").invoke(null);
            }
        }
        for (String file : new String[] {"Page.java", "Page.class", ""}) {
            Files.deleteIfExists(room.resolve(file));
        }
        System.out.println(asked + " calls of README.md, " + wrong + " wrong");
        if (failed != 0 || wrong != 0 || asked < LEAST_CALLS) {
            System.exit(1);
        }
    }

    /** Blocks that begin with "static" are methods; each of the others is a run of calls. */
    private static String program(String page) {
        StringBuilder methods = new StringBuilder();
        List<String> runs = new ArrayList<>();
        Matcher block = BLOCK.matcher(page);
        while (block.find()) {
            if (block.group(1).startsWith("static")) {
                methods.append(block.group(1));
            } else {
                runs.add(withAnswersAsked(block.group(1)));
            }
        }
        StringBuilder text = new StringBuilder("public final class Page {\n").append(methods);
        text.append("public static void go() {\n");
        for (String run : runs) {
            text.append("{\n").append(run).append("}\n");
        }
        return text.append("}\n}\n").toString();
    }

    private static String withAnswersAsked(String run) {
        StringBuilder text = new StringBuilder();
        for (String line : run.split("\n")) {
            Matcher call = CALL.matcher(line);
            if (!call.matches()) {
                text.append(line).append('\n');
                continue;
            }
            boolean isName = Character.isLetter(call.group(2).charAt(0));
            String want = isName ? "CartsDownHill." + call.group(2) : call.group(2);
            text.append("CartsDownHillReadme.due(\"" + call.group(1) + "\", " + call.group(1) + ", " + want + ");\n");
        }
        return text.toString();
    }
}
