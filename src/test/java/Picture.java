import java.util.ArrayList;
import java.util.List;
import java.util.function.Consumer;
import java.util.function.Function;

/**
 * All that an object answers after a run of calls, but for the reason that is kept. Each answer is asked of an object of
 * its own, so that no run grows beyond the calls that the document promises, and no question changes what the next asks.
 */
final class Picture {
    private static final List<Function<GluedWall, Object>> QUESTIONS = questions();

    private Picture() {
    }

    static String after(Consumer<GluedWall> run) {
        StringBuilder text = new StringBuilder();
        for (int i = 0; i < QUESTIONS.size(); i++) {
            Function<GluedWall, Object> question = QUESTIONS.get(i);
            GluedWall wall = new GluedWall();
            run.accept(wall);
            text.append(i).append('=').append(Check.answer(() -> question.apply(wall))).append(' ');
        }
        return text.toString();
    }

    private static List<Function<GluedWall, Object>> questions() {
        List<Function<GluedWall, Object>> all = new ArrayList<>();
        for (int number = 0; number < 10; number++) {
            int what = number;
            all.add(wall -> wall.account(what));
        }
        for (int number = 0; number < 32; number++) {
            int what = number;
            all.add(wall -> wall.glueOf(what / 4, 0, what % 4));
            all.add(wall -> wall.character(what));
        }
        for (int number = 1; number < 7; number++) {
            int what = number;
            all.add(wall -> wall.strengthOf(what));
        }
        for (int number = 0; number < 42; number++) {
            int what = number;
            all.add(wall -> Check.answer(() -> wall.brickAt(what, false)) + Check.answer(() -> wall.brickAt(what, true)));
        }
        all.add(GluedWall::seed);
        all.add(GluedWall::faultPosition);
        all.add(Picture::buffer);
        all.add(Picture::undone);
        all.add(wall -> Check.answer(wall::restore) + Check.wholeWall(wall) + wall.account(3));
        return all;
    }

    /** The buffer shows by what it is the start of. */
    private static Object buffer(GluedWall wall) {
        return Check.answer(() -> Check.run(wall, "n5;?")) + wall.faultPosition();
    }

    private static Object undone(GluedWall wall) {
        StringBuilder text = new StringBuilder();
        for (int i = 0; i < 9; i++) {
            text.append(Check.answer(wall::undo)).append(Check.wholeWall(wall)).append(wall.account(2));
        }
        return text;
    }
}
