import java.io.IOException;
import java.lang.reflect.Constructor;
import java.lang.reflect.Method;
import java.lang.reflect.Modifier;
import java.nio.file.Files;
import java.nio.file.Path;
import java.util.Set;
import java.util.TreeSet;

/** The public face is the one that ../shared/DOC.md shows; LanguageTest looks that others see nothing beside it. */
public final class FaceTest {
    private final Check check = new Check();

    public static void main(String[] args) throws IOException {
        FaceTest test = new FaceTest();
        test.face();
        test.check.end();
    }

    /** The lines of the face, without the names of parameters. */
    private static Set<String> told() throws IOException {
        String block = Files.readString(Path.of("../shared/DOC.md")).split("```")[1];
        Set<String> lines = new TreeSet<>();
        for (String line : block.split("\n")) {
            if (line.startsWith("    public ")) {
                lines.add(line.strip().replaceAll("^public |;$", "").replaceAll("(int|char|boolean) \\w+(?=[,)])", "$1"));
            }
        }
        return lines;
    }

    private void face() throws IOException {
        Set<String> due = told();
        check.same("the document shows the constructor", true, due.remove("GluedWall()"));
        check.same("the document shows methods", 37, due.size());
        Set<String> got = new TreeSet<>();
        for (Method method : GluedWall.class.getDeclaredMethods()) {
            if (Modifier.isPublic(method.getModifiers())) {
                got.add(shown(method));
            }
        }
        check.same("the face", String.join("\n", due), String.join("\n", got));
        Constructor<?>[] made = GluedWall.class.getDeclaredConstructors();
        check.same("constructors", 1, made.length);
        check.same("constructor", "public GluedWall()", made[0].toString());
        check.same("class", "public final", Modifier.toString(GluedWall.class.getModifiers()));
    }

    private static String shown(Method method) {
        StringBuilder text = new StringBuilder(method.getReturnType().getSimpleName() + " " + method.getName() + "(");
        text.append(joined(method.getParameterTypes())).append(")");
        if (method.getExceptionTypes().length > 0) {
            text.append(" throws ").append(joined(method.getExceptionTypes()));
        }
        return text.toString();
    }

    private static String joined(Class<?>[] types) {
        StringBuilder text = new StringBuilder();
        for (Class<?> type : types) {
            text.append(text.length() == 0 ? "" : ", ").append(type.getSimpleName());
        }
        return text.toString();
    }
}
