import java.io.IOException;
import java.nio.file.Files;
import java.nio.file.Path;
import java.util.ArrayDeque;
import java.util.Deque;
import java.util.regex.Matcher;
import java.util.regex.Pattern;

/** What can be seen of ../shared/LANGUAGE.md in the text of the class, and the room that its calls take. */
public final class LanguageTest {
    private static final String[] WORDS = {"catch", "try", "finally", "synchronized", "assert", "instanceof", "protected",
        "native", "volatile", "transient", "var", "yield", "static \\{", "->", "::", "Object", "System\\.(?!arraycopy)",
        "Math\\.\\w*Exact", "equals", "hashCode", "toString", "Thread", "Random", "float\\[", "double\\["};
    private static final long ROOM = 1_000_000;

    private final Check check = new Check();

    public static void main(String[] args) throws IOException {
        LanguageTest test = new LanguageTest();
        String source = Files.readString(Path.of("src/main/java/GluedWall.java"));
        test.words(source.replaceAll("\"[^\"]*\"", "\"\"").replaceAll("/\\*.*?\\*/|//[^\n]*", ""));
        test.imports(source);
        test.lengths(source);
        test.room();
        test.check.end();
    }

    private void words(String code) {
        for (String word : WORDS) {
            String pattern = Character.isLetter(word.charAt(0)) ? "\\b" + word : word;
            check.same(word, false, Pattern.compile(pattern + "(?!\\w)").matcher(code).find());
        }
        Matcher thrown = Pattern.compile("throw (.*?);").matcher(code);
        while (thrown.find()) {
            check.same(thrown.group(), true, thrown.group(1).matches("new [A-Z]\\w+\\((\"\")?\\)"));
        }
    }

    private void imports(String source) {
        Matcher line = Pattern.compile("import (.*);").matcher(source);
        while (line.find()) {
            check.same("import", "java.util.NoSuchElementException", line.group(1));
        }
    }

    /** Methods of some sixty lines at most, and some twelve classes. */
    private void lengths(String source) {
        String[] lines = source.split("\n");
        Deque<Integer> opened = new ArrayDeque<>();
        int classes = 0;
        for (int number = 0; number < lines.length; number++) {
            String line = lines[number];
            if (line.contains(" class ") && line.endsWith("{")) {
                classes++;
            } else if (line.matches("( {4}| {8})[a-zA-Z].*\\(.*\\{|.*throws .*\\{")) {
                opened.push(number);
            } else if (line.matches("( {4}| {8})}") && !opened.isEmpty()) {
                check.same("length of the method at " + number, true, number - opened.pop() < 60);
                opened.clear();
            }
        }
        check.same("classes", true, classes <= 12);
    }

    /** A whole run of the dearest calls; the objects that it makes are its exceptions alone. */
    private void room() {
        com.sun.management.ThreadMXBean threads =
                (com.sun.management.ThreadMXBean) java.lang.management.ManagementFactory.getThreadMXBean();
        long thread = Thread.currentThread().getId();
        dearRun();
        long before = threads.getThreadAllocatedBytes(thread);
        int bricks = dearRun();
        long taken = threads.getThreadAllocatedBytes(thread) - before;
        check.same("bricks", 42, bricks);
        check.same("room of " + taken + " bytes is small", true, taken < ROOM);
    }

    private static int dearRun() {
        GluedWall wall = new GluedWall();
        wall.kind(1, 1, 1, 1);
        wall.need(1);
        wall.lay(41, 0, 0);
        int bricks = 0;
        for (int call = 0; call < 80; call++) {
            bricks = wall.growsTo();
            wall.stuck();
            wall.grow(42);
            wall.undo();
            wall.save();
            wall.restore();
        }
        return bricks;
    }
}
