import java.lang.reflect.Constructor;
import java.lang.reflect.Field;
import java.lang.reflect.Method;
import java.lang.reflect.Modifier;
import java.util.Arrays;
import java.util.Set;
import java.util.TreeSet;

/** The public face of the document, and nothing beside it that others can see. */
public final class FaceTest {
    private static final String[] FACE = {
        "int kind(int, int, int, int) throws UnsupportedOperationException",
        "int lay(int, int, int) throws UnsupportedOperationException",
        "int takeOut(int) throws UnsupportedOperationException",
        "int grow(int) throws UnsupportedOperationException",
        "int strength(int, int) throws UnsupportedOperationException",
        "int need(int) throws UnsupportedOperationException",
        "int glueOf(int, int, int) throws IndexOutOfBoundsException, IllegalArgumentException",
        "int strengthOf(int) throws IllegalArgumentException",
        "int brickAt(int, boolean) throws IndexOutOfBoundsException, NoSuchElementException",
        "int seed() throws NoSuchElementException",
        "int hold(int) throws IndexOutOfBoundsException, NoSuchElementException",
        "int holdAgain(int) throws IndexOutOfBoundsException, NoSuchElementException",
        "int wouldHold(int, int, int) throws IndexOutOfBoundsException, IllegalArgumentException, NoSuchElementException",
        "boolean stands(int) throws IndexOutOfBoundsException, NoSuchElementException",
        "int fallen()",
        "int falls(int) throws IndexOutOfBoundsException, NoSuchElementException",
        "int errors()",
        "int errorsAt(int) throws IndexOutOfBoundsException, NoSuchElementException",
        "int nextPlace() throws NoSuchElementException",
        "int nextBrick() throws NoSuchElementException",
        "int choices(int) throws IndexOutOfBoundsException, NoSuchElementException",
        "int stuck()",
        "int growsTo()",
        "int inRow(int, boolean) throws IndexOutOfBoundsException",
        "int weakest(int) throws NoSuchElementException",
        "int append(char) throws IllegalStateException",
        "int commands() throws IllegalArgumentException, UnsupportedOperationException",
        "int faultPosition()",
        "int reason(int) throws IllegalArgumentException, NoSuchElementException",
        "int line(int) throws IndexOutOfBoundsException",
        "char character(int) throws IndexOutOfBoundsException",
        "double meanHold() throws ArithmeticException",
        "float standing() throws ArithmeticException",
        "int account(int) throws IllegalArgumentException",
        "int undo() throws IllegalStateException",
        "int save()",
        "int restore() throws IllegalStateException",
    };

    private final Check check = new Check();

    public static void main(String[] args) {
        FaceTest test = new FaceTest();
        test.face();
        test.nothingElse();
        test.check.end();
    }

    private void face() {
        Set<String> due = new TreeSet<>(Arrays.asList(FACE));
        Set<String> got = new TreeSet<>();
        for (Method method : GluedWall.class.getDeclaredMethods()) {
            if (Modifier.isPublic(method.getModifiers())) {
                got.add(shown(method));
            }
        }
        check.same("the face", String.join("\n", due), String.join("\n", got));
        Constructor<?>[] made = GluedWall.class.getDeclaredConstructors();
        check.same("constructors", 1, made.length);
        check.same("constructor", "public GluedWall()", made[0].toString());
        check.same("class", "public final", Modifier.toString(GluedWall.class.getModifiers()));
    }

    private void nothingElse() {
        Set<String> names = new TreeSet<>();
        for (String line : FACE) {
            names.add(line.substring(line.indexOf(' ') + 1, line.indexOf('(')));
        }
        for (Method method : GluedWall.class.getDeclaredMethods()) {
            if (!Modifier.isPublic(method.getModifiers())) {
                check.same(method + " is private", true, Modifier.isPrivate(method.getModifiers()));
                check.same(method + " has a name of its own", false, names.contains(method.getName()));
            }
        }
        for (Field field : GluedWall.class.getDeclaredFields()) {
            check.same(field + " is private", true, Modifier.isPrivate(field.getModifiers()));
            check.same(field + " is no state of all", true,
                    Modifier.isFinal(field.getModifiers()) || !Modifier.isStatic(field.getModifiers()));
        }
    }

    private static String shown(Method method) {
        StringBuilder text = new StringBuilder(method.getReturnType().getSimpleName() + " " + method.getName() + "(");
        text.append(joined(method.getParameterTypes())).append(")");
        if (method.getExceptionTypes().length > 0) {
            text.append(" throws ").append(joined(method.getExceptionTypes()));
        }
        return text.toString();
    }

    private static String joined(Class<?>[] types) {
        StringBuilder text = new StringBuilder();
        for (Class<?> type : types) {
            text.append(text.length() == 0 ? "" : ", ").append(type.getSimpleName());
        }
        return text.toString();
    }
}
