import java.io.IOException;
import java.lang.reflect.Method;
import java.lang.reflect.Modifier;
import java.net.URL;
import java.net.URLClassLoader;
import java.nio.file.Files;
import java.nio.file.Path;
import java.util.ArrayList;
import java.util.List;
import java.util.function.BiConsumer;
import java.util.function.Supplier;
import java.util.regex.Matcher;
import java.util.regex.Pattern;
import javax.tools.ToolProvider;

/** The Java of README.md is one run: each call answers what stands behind it, up to the first comma. */
public final class ReadmeTest {
    private static final Pattern BLOCK = Pattern.compile("```java\n(.*?)```", Pattern.DOTALL);
    private static final Pattern CALL = Pattern.compile("((?:wall\\.)?\\w+\\(.*\\)); +// (?:throws )?([^,]+).*");

    private final Check check = new Check();

    public static void main(String[] args) throws IOException, ReflectiveOperationException {
        String page = Files.readString(Path.of("README.md"));
        ReadmeTest test = new ReadmeTest();
        test.namesTheFace(page);
        test.runs(page);
        test.check.end();
    }

    private void namesTheFace(String page) {
        for (Method method : GluedWall.class.getDeclaredMethods()) {
            if (Modifier.isPublic(method.getModifiers())) {
                check.same("README.md names " + method.getName(), true,
                        Pattern.compile("\\b" + method.getName() + "\\b").matcher(page).find());
            }
        }
    }

    private void runs(String page) throws IOException, ReflectiveOperationException {
        List<String> lines = new ArrayList<>();
        StringBuilder methods = new StringBuilder();
        StringBuilder run = new StringBuilder();
        Matcher block = BLOCK.matcher(page);
        while (block.find()) {
            if (block.group(1).startsWith("static ")) {
                methods.append(block.group(1));
            } else {
                addLines(block.group(1), lines, run);
            }
        }
        check.same("README.md has calls", true, lines.size() > 20);
        BiConsumer<Integer, Supplier<Object>> due = (number, call) -> {
            Matcher line = CALL.matcher(lines.get(number));
            check.same("README.md: " + lines.get(number), line.matches() ? line.group(2).strip() : null,
                    Check.answer(call::get));
        };
        carryOut("""
                public final class Example {
                    public static void run(java.util.function.BiConsumer<Integer, java.util.function.Supplier<Object>> due) {
                %s
                    }
                %s
                }
                """.formatted(run, methods), due);
    }

    /** A call with its answer is asked by its number; anything else stays as it is. */
    private static void addLines(String block, List<String> lines, StringBuilder run) {
        for (String line : block.lines().toList()) {
            Matcher call = CALL.matcher(line);
            if (call.matches()) {
                run.append("due.accept(" + lines.size() + ", () -> " + call.group(1) + ");\n");
                lines.add(line);
            } else {
                run.append(line).append("\n");
            }
        }
    }

    private static void carryOut(String source, Object due) throws IOException, ReflectiveOperationException {
        Path place = Files.createTempDirectory("readme");
        Path file = place.resolve("Example.java");
        try {
            Files.writeString(file, source);
            int code = ToolProvider.getSystemJavaCompiler().run(null, null, null,
                    "-cp", System.getProperty("java.class.path"), "-d", place.toString(), file.toString());
            if (code != 0) {
                throw new IllegalStateException("the Java of README.md does not compile");
            }
            try (URLClassLoader loader = new URLClassLoader(new URL[] {place.toUri().toURL()})) {
                loader.loadClass("Example").getMethod("run", BiConsumer.class).invoke(null, due);
            }
        } finally {
            Files.deleteIfExists(file);
            Files.deleteIfExists(place.resolve("Example.class"));
            Files.deleteIfExists(place);
        }
    }
}
