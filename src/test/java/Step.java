import java.lang.reflect.InvocationTargetException;
import java.lang.reflect.Method;
import java.util.ArrayList;
import java.util.List;
import java.util.regex.Matcher;
import java.util.regex.Pattern;

/**
 * A call of a run that is told as text, with what is due. A line of a run is one of these:
 * <pre>
 * lay(17, 0, 3) = 0                       a call and its answer; without " = .." any answer is due, but no exception
 * lay(-1|42, 0, 0) refused 1 0 0          a call with each of some arguments; it is refused: reason, detail, command
 * hold(MIN) throws NoSuchElementException MIN and MAX are the least and the largest int
 * 8 times kind(0, 0, 0, 0)                the same call again and again
 * type "l17:0"                            appends the signs
 * text "l17:0" = 1                        appends the signs and carries them out, with their answer,
 * text "l17" fault 3                      the fault position,
 * text "n2;n2" refused 9 0 1              or the reason
 * line(2) shows ..0**...                  the line, sign by sign
 * </pre>
 */
final class Step {
    static final String FREE = "free";
    private static final Pattern LINE = Pattern.compile("(\\w+)\\((.*?)\\)(?: (=|throws|refused|shows) (.*))?");
    private static final Pattern TEXT = Pattern.compile("(type|text) \"(.*)\"(?: (=|fault|refused) (.*))?");
    private static final Pattern TIMES = Pattern.compile("(\\d+) times (.*)");

    final String shown;
    /** The answer that is due, or the name of the exception, or FREE. */
    final String due;
    private final Method method;
    private final Object[] arguments;

    private Step(String name, List<Object> given, String due) {
        this.shown = name + "(" + String.join(", ", given.stream().map(String::valueOf).toList()) + ")";
        this.due = due;
        this.method = methodOf(name);
        this.arguments = new Object[given.size()];
        Class<?>[] types = method.getParameterTypes();
        if (types.length != given.size()) {
            throw new IllegalStateException(shown + " has too few or too many arguments");
        }
        for (int at = 0; at < types.length; at++) {
            this.arguments[at] = read(types[at], String.valueOf(given.get(at)));
        }
    }

    /** The steps of a run, a line each or more. */
    static List<Step> of(String run) {
        List<Step> steps = new ArrayList<>();
        for (String line : run.strip().split("\\s*\n\\s*")) {
            addLine(steps, line);
        }
        return steps;
    }

    String answer(GluedWall wall) {
        try {
            return String.valueOf(method.invoke(wall, arguments));
        } catch (InvocationTargetException e) {
            return e.getCause().getClass().getSimpleName();
        } catch (IllegalAccessException e) {
            throw new IllegalStateException(shown, e);
        }
    }

    boolean throwsOne() {
        return due.endsWith("Exception");
    }

    boolean isOf(String name) {
        return method.getName().equals(name);
    }

    private static void addLine(List<Step> steps, String line) {
        Matcher times = TIMES.matcher(line);
        Matcher text = TEXT.matcher(line);
        Matcher call = LINE.matcher(line);
        if (times.matches()) {
            for (int time = 0; time < Integer.parseInt(times.group(1)); time++) {
                addLine(steps, times.group(2));
            }
        } else if (text.matches()) {
            addText(steps, text);
        } else if (call.matches() && "shows".equals(call.group(3))) {
            addShownLine(steps, call.group(2), call.group(4));
        } else if (call.matches()) {
            addCalls(steps, call);
        } else {
            throw new IllegalStateException("no such line of a run: " + line);
        }
    }

    private static void addCalls(List<Step> steps, Matcher line) {
        String due = line.group(3) == null ? FREE : line.group(4);
        boolean isRefused = "refused".equals(line.group(3));
        List<List<Object>> calls = new ArrayList<>(List.of(List.of()));
        String[] arguments = line.group(2).isEmpty() ? new String[0] : line.group(2).split(", ");
        for (String argument : arguments) {
            List<List<Object>> longer = new ArrayList<>();
            for (List<Object> begun : calls) {
                for (String one : argument.split("\\|")) {
                    List<Object> call = new ArrayList<>(begun);
                    call.add(one);
                    longer.add(call);
                }
            }
            calls = longer;
        }
        for (List<Object> call : calls) {
            steps.add(new Step(line.group(1), call, isRefused ? Check.REFUSED : due));
            if (isRefused) {
                addReason(steps, due);
            }
        }
    }

    private static void addText(List<Step> steps, Matcher line) {
        for (char sign : line.group(2).toCharArray()) {
            steps.add(new Step("append", List.of((int) sign), FREE));
        }
        if (line.group(1).equals("type")) {
            return;
        }
        String sort = line.group(3) == null ? "" : line.group(3);
        String due = line.group(3) == null ? FREE : line.group(4);
        String answer = sort.equals("fault") ? Check.ARGUMENT : sort.equals("refused") ? Check.REFUSED : due;
        steps.add(new Step("commands", List.of(), answer));
        steps.add(new Step("account", List.of(9), "0"));
        steps.add(new Step("faultPosition", List.of(), sort.equals("fault") ? due : "-1"));
        if (sort.equals("refused")) {
            addReason(steps, due);
        }
    }

    private static void addReason(List<Step> steps, String due) {
        String[] numbers = due.split(" ");
        for (int what = 0; what < 3; what++) {
            steps.add(new Step("reason", List.of(what), numbers[what]));
        }
    }

    private static void addShownLine(List<Step> steps, String row, String due) {
        steps.add(new Step("line", List.of(row), String.valueOf(due.length())));
        for (int index = 0; index < due.length(); index++) {
            steps.add(new Step("character", List.of(index), due.substring(index, index + 1)));
        }
    }

    private static Method methodOf(String name) {
        for (Method method : GluedWall.class.getMethods()) {
            if (method.getName().equals(name) && method.getDeclaringClass() == GluedWall.class) {
                return method;
            }
        }
        throw new IllegalStateException("no such method: " + name);
    }

    /** A sign is told by its number. */
    private static Object read(Class<?> type, String text) {
        if (type == boolean.class) {
            return Boolean.valueOf(text);
        }
        int number = text.equals("MIN") ? Integer.MIN_VALUE
                : text.equals("MAX") ? Integer.MAX_VALUE : Integer.parseInt(text);
        return type == char.class ? (Object) (char) number : (Object) number;
    }
}
