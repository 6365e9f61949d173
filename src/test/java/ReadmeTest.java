import java.io.IOException;
import java.net.URL;
import java.net.URLClassLoader;
import java.nio.file.Files;
import java.nio.file.Path;
import java.util.List;
import java.util.regex.Matcher;
import java.util.regex.Pattern;
import javax.tools.ToolProvider;

/** Compiles and runs the lines of README.md, and holds each call against the answer that stands behind it. */
public final class ReadmeTest {
    private static final Due DUE = new Due("ReadmeTest");
    private static final Pattern ANSWERED = Pattern.compile("\\s*(house\\.(\\w+)\\(.*\\)); +// (-?\\d+|true)(:.*)?");

    public static void main(String[] args) throws Exception {
        List<String> page = Files.readAllLines(Path.of("README.md"));
        namesEveryCall(String.join("\n", page));
        Path room = Files.createTempDirectory("readme");
        try {
            run(example(page), room);
        } finally {
            clear(room);
        }
        DUE.finish();
    }

    /** Called by the lines of the page. */
    public static void answer(String call, Object got, String want) {
        DUE.is(call + " answers " + want + ", and not " + got, want.equals(String.valueOf(got)), true);
    }

    private static void namesEveryCall(String page) {
        for (var method : SectionHouse.class.getDeclaredMethods()) {
            if (java.lang.reflect.Modifier.isPublic(method.getModifiers())) {
                DUE.is("README names " + method.getName(), page.contains("`" + method.getName() + "`"), true);
            }
        }
        DUE.is("README says how to run the tests", page.contains("`sh .ci/run`"), true);
    }

    /** The first block is a method, the second one its use. */
    private static String example(List<String> page) {
        StringBuilder source = new StringBuilder("public final class ReadmeExample {\n");
        int blocks = 0;
        int answers = 0;
        boolean inside = false;
        for (String line : page) {
            if (line.startsWith("```")) {
                inside = line.equals("```java");
                blocks += inside ? 1 : 0;
                source.append(inside && blocks == 2 ? "public static void main(String[] args) {\n" : "");
            } else if (inside) {
                Matcher answered = ANSWERED.matcher(line);
                boolean asks = answered.matches();
                answers += asks ? 1 : 0;
                source.append(asks ? asked(answered.group(1), answered.group(3)) : line).append('\n');
            }
        }
        DUE.is("blocks of README", blocks, 2);
        DUE.is("answers in README: " + answers, answers > 30, true);
        return source.append("}\n}\n").toString();
    }

    private static String asked(String call, String want) {
        return "ReadmeTest.answer(\"" + call + "\", " + call + ", \"" + want + "\");";
    }

    private static void run(String source, Path room) throws Exception {
        Path file = room.resolve("ReadmeExample.java");
        Files.writeString(file, source);
        String classes = System.getProperty("java.class.path");
        int failed = ToolProvider.getSystemJavaCompiler()
            .run(null, null, null, "-cp", classes, "-d", room.toString(), file.toString());
        DUE.is("README's lines compile", failed, 0);
        if (failed == 0) {
            try (URLClassLoader loader = new URLClassLoader(new URL[] {room.toUri().toURL()})) {
                loader.loadClass("ReadmeExample").getMethod("main", String[].class).invoke(null, (Object) args());
            }
        }
    }

    private static String[] args() {
        return new String[0];
    }

    private static void clear(Path room) throws IOException {
        try (var files = Files.list(room)) {
            for (Path file : files.toList()) {
                Files.delete(file);
            }
        }
        Files.delete(room);
    }
}
