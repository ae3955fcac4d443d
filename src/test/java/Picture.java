import java.util.ArrayList;
import java.util.List;
import java.util.function.Consumer;
import java.util.function.Function;

/**
 * All that an object answers after a run of calls. Each answer is asked of an object of its own, so that no run grows
 * beyond the calls that the document promises, and no question changes what the next asks.
 */
final class Picture {
    private static final List<Function<GluedWall, Object>> STATE = aboutState();
    private static final List<Function<GluedWall, Object>> TEXT = List.of(wall -> wall.account(9),
            GluedWall::faultPosition, Picture::buffer);
    private static final List<Function<GluedWall, Object>> REASON = List.of(wall -> wall.reason(0),
            wall -> wall.reason(1), wall -> wall.reason(2));

    private Picture() {
    }

    /** All but the reason that is kept. */
    static String after(Consumer<GluedWall> run) {
        return of(run, true, false);
    }

    /** All, with the text buffer and the fault position or without them, and with the reason or without it. */
    static String of(Consumer<GluedWall> run, boolean withText, boolean withReason) {
        StringBuilder picture = new StringBuilder();
        ask(picture, "state", STATE, run);
        if (withText) {
            ask(picture, "text", TEXT, run);
        }
        if (withReason) {
            ask(picture, "reason", REASON, run);
        }
        return picture.toString();
    }

    /** The answers of a picture that another one does not have. */
    static String lost(String before, String after) {
        List<String> lost = new ArrayList<>(List.of(before.split(" ")));
        lost.removeAll(List.of(after.split(" ")));
        return String.join(" ", lost);
    }

    private static void ask(StringBuilder picture, String about, List<Function<GluedWall, Object>> questions,
            Consumer<GluedWall> run) {
        for (int i = 0; i < questions.size(); i++) {
            Function<GluedWall, Object> question = questions.get(i);
            GluedWall wall = new GluedWall();
            run.accept(wall);
            picture.append(about).append(i).append('=').append(Check.answer(() -> question.apply(wall))).append(' ');
        }
    }

    private static List<Function<GluedWall, Object>> aboutState() {
        List<Function<GluedWall, Object>> all = new ArrayList<>();
        for (int number = 0; number < 9; number++) {
            int what = number;
            all.add(wall -> wall.account(what));
            all.add(wall -> undone(wall, what));
        }
        for (int number = 0; number < 8; number++) {
            int what = number;
            all.add(wall -> glues(wall, what));
        }
        for (int number = 1; number < 7; number++) {
            int what = number;
            all.add(wall -> wall.strengthOf(what));
        }
        all.add(Check::wholeWall);
        all.add(GluedWall::seed);
        all.add(Picture::line);
        all.add(wall -> Check.answer(wall::restore) + Check.wholeWall(wall) + wall.account(3));
        return all;
    }

    private static Object glues(GluedWall wall, int kind) {
        StringBuilder text = new StringBuilder();
        for (int side = 0; side < 4; side++) {
            text.append(wall.glueOf(kind, 0, side));
        }
        return text;
    }

    private static Object line(GluedWall wall) {
        StringBuilder text = new StringBuilder();
        for (int i = 0; i < 28; i++) {
            int index = i;
            text.append(Check.answer(() -> wall.character(index)));
        }
        return text;
    }

    /** The buffer shows by what it is the start of. */
    private static Object buffer(GluedWall wall) {
        return Check.answer(() -> Check.run(wall, "n5;?")) + wall.faultPosition();
    }

    private static Object undone(GluedWall wall, int times) {
        StringBuilder text = new StringBuilder();
        for (int i = 0; i < times; i++) {
            text.append(Check.answer(wall::undo));
        }
        return text.append(Check.wholeWall(wall)).append(wall.account(2)).append(wall.account(0)).append(wall.account(5));
    }
}
