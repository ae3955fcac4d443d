/** Compares answers with those that are due, prints each that is not, and ends the test. */
final class Check {
    interface Call {
        Object ask();
    }

    static final String BOUNDS = "IndexOutOfBoundsException";
    static final String ARGUMENT = "IllegalArgumentException";
    static final String STATE = "IllegalStateException";
    static final String REFUSED = "UnsupportedOperationException";
    static final String NONE_SUCH = "NoSuchElementException";
    static final String ARITHMETIC = "ArithmeticException";

    private int asked = 0;
    private int wrong = 0;

    /** What a call answers, or the name of what it throws, so that a machine's own exception is seen as such. */
    static String answer(Call call) {
        try {
            return String.valueOf(call.ask());
        } catch (RuntimeException e) {
            return e.getClass().getSimpleName();
        }
    }

    void due(String what, Object due, Call call) {
        same(what, due, answer(call));
    }

    void same(String what, Object due, Object got) {
        asked++;
        if (!String.valueOf(due).equals(String.valueOf(got))) {
            wrong++;
            System.out.println(what + " answered " + got + ", due is " + due);
        }
    }

    /** A call that is refused as a call of its own. */
    void refused(String what, GluedWall wall, int reason, int detail, Call call) {
        refusedIn(what, wall, reason, detail, 0, call);
    }

    void refusedIn(String what, GluedWall wall, int reason, int detail, int command, Call call) {
        due(what, REFUSED, call);
        due(what + ": reason", reason, () -> wall.reason(0));
        due(what + ": detail", detail, () -> wall.reason(1));
        due(what + ": command", command, () -> wall.reason(2));
    }

    void end() {
        System.out.println(asked + " answers, " + wrong + " wrong");
        if (wrong != 0) {
            System.exit(1);
        }
    }

    /** Fills the buffer; the text must fit. */
    static GluedWall write(GluedWall wall, String text) {
        for (int i = 0; i < text.length(); i++) {
            wall.append(text.charAt(i));
        }
        return wall;
    }

    /** Writes a text and carries it out. */
    static int run(GluedWall wall, String text) {
        return write(wall, text).commands();
    }

    static String line(GluedWall wall, int row) {
        int length = wall.line(row);
        return shownLine(wall, length);
    }

    private static String shownLine(GluedWall wall, int length) {
        StringBuilder text = new StringBuilder();
        for (int i = 0; i < length; i++) {
            text.append(wall.character(i));
        }
        return text.toString();
    }

    static String wholeWall(GluedWall wall) {
        StringBuilder text = new StringBuilder();
        for (int row = 0; row < 6; row++) {
            text.append(row == 0 ? "" : "/").append(line(wall, row));
        }
        return text.toString();
    }
}
