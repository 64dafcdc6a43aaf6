import java.io.IOException;
import java.net.URL;
import java.net.URLClassLoader;
import java.nio.file.Files;
import java.nio.file.Path;
import java.util.regex.Matcher;
import java.util.regex.Pattern;
import javax.tools.ToolProvider;

/** The example of README.md is compiled and run as it stands; each call answers or throws what its comment tells. */
public final class ReadmeTests {
    /** A call of the example. */
    public interface Call {
        Object answer();
    }

    /** A call, what it answers or throws, and perhaps words about it behind a colon. */
    private static final Pattern TOLD = Pattern.compile("(x\\.\\w+\\(.*\\)); +// ([^:]+)(:.*)?");
    private static int made = 0;
    private static int faults = 0;

    public static void main(String[] args) throws Exception {
        StringBuilder body = new StringBuilder();
        int told = 0;
        for (String line : example().split("\n")) {
            Matcher call = TOLD.matcher(line);
            if (call.matches()) {
                told++;
                body.append("ReadmeTests.due(\"").append(call.group(2)).append("\", \"")
                        .append(call.group(1).replace("\"", "'")).append("\", () -> ").append(call.group(1))
                        .append(");\n");
            } else {
                body.append(line).append('\n');
                if (line.startsWith("x.")) {
                    fault("no answer is told: " + line);
                }
            }
        }
        run(body.toString());
        if (told == 0 || made != told) {
            fault(made + " calls were made, " + told + " answers are told");
        }
        System.out.println("ReadmeTests: " + told + " answers told, " + faults + " faults");
        if (faults != 0) {
            System.exit(1);
        }
    }

    private static void fault(String what) {
        faults++;
        System.out.println("ReadmeTests: " + what);
    }

    private static String example() throws IOException {
        String text = Files.readString(Path.of("README.md"));
        int start = text.indexOf("```java\n") + 8;
        return text.substring(start, text.indexOf("```", start));
    }

    private static void run(String body) throws Exception {
        Path folder = Files.createTempDirectory("readme");
        Path source = folder.resolve("ReadmeExample.java");
        Files.writeString(source, "public final class ReadmeExample {\n    public static void run() {\n" + body
                + "    }\n}\n");
        int code = ToolProvider.getSystemJavaCompiler().run(null, null, null,
                "-cp", System.getProperty("java.class.path"), "-d", folder.toString(), source.toString());
        if (code != 0) {
            fault("the example does not compile");
        } else {
            try (URLClassLoader loader = new URLClassLoader(new URL[] {folder.toUri().toURL()})) {
                loader.loadClass("ReadmeExample").getMethod("run").invoke(null);
            }
        }
        for (String name : new String[] {"ReadmeExample.class", "ReadmeExample.java", ""}) {
            Files.deleteIfExists(folder.resolve(name));
        }
    }

    /** The example calls this in place of its calls. */
    public static void due(String want, String text, Call call) {
        made++;
        String got;
        try {
            got = String.valueOf(call.answer());
        } catch (RuntimeException e) {
            got = e.getClass().getSimpleName();
        }
        if (!got.equals(want)) {
            fault(text + " answered " + got + ", told is " + want);
        }
    }
}
