import java.util.function.Consumer;

/** A refused call, a call that throws and a question leave the state as it was, unless the document states otherwise. */
public final class UnchangedTest {
    private final Check check = new Check();

    public static void main(String[] args) {
        UnchangedTest test = new UnchangedTest();
        test.picturesDiffer();
        test.refusedChanges();
        test.wrongQuestions();
        test.rightQuestions();
        test.emptyObject();
        test.fullBuffer();
        test.commandsEmptyTheBuffer();
        test.check.end();
    }

    /** All parts of the state have something to lose: a snapshot, changes, a line, a fault, a buffer. */
    private static void prepare(GluedWall wall) {
        Check.run(wall, "k1212;k1111;k0120;s23;n1;l17:0;l24:1*");
        wall.save();
        for (int glue = 0; glue < 5; glue++) {
            wall.kind(glue, 2, glue, 2);
        }
        wall.grow(4);
        wall.need(2);
        wall.strength(4, 0);
        Check.answer(() -> Check.run(wall, "t1;t"));
        wall.line(2);
        Check.write(wall, "l1");
    }

    private static void doNothing(GluedWall wall) {
    }

    /** What the pictures can see at all. */
    private void picturesDiffer() {
        String before = Picture.after(UnchangedTest::prepare);
        differs(before, "need", wall -> wall.need(3));
        differs(before, "strength", wall -> wall.strength(1, 0));
        differs(before, "grow", wall -> wall.grow(1));
        differs(before, "undo", GluedWall::undo);
        differs(before, "append", wall -> wall.append('x'));
        differs(before, "append a digit", wall -> wall.append('7'));
        differs(before, "line", wall -> wall.line(0));
        differs(before, "save", GluedWall::save);
        differs(before, "restore", GluedWall::restore);
        differs(before, "commands", wall -> Check.answer(wall::commands));
    }

    private void differs(String before, String what, Consumer<GluedWall> call) {
        check.same(what + " shows", false, before.equals(Picture.after(wall -> {
            prepare(wall);
            call.accept(wall);
        })));
    }

    private void refusedChanges() {
        unchanged("kind", Check.REFUSED, wall -> wall.kind(0, 0, 7, 0));
        unchanged("a ninth kind", Check.REFUSED, wall -> wall.kind(0, 0, 0, 0));
        unchanged("lay, place", Check.REFUSED, wall -> wall.lay(42, 0, 0));
        unchanged("lay, turn", Check.REFUSED, wall -> wall.lay(0, 0, 4));
        unchanged("lay, kind", Check.REFUSED, wall -> wall.lay(0, 8, 0));
        unchanged("lay, taken", Check.REFUSED, wall -> wall.lay(17, 0, 0));
        unchanged("lay, hold", Check.REFUSED, wall -> wall.lay(41, 0, 0));
        unchanged("takeOut, place", Check.REFUSED, wall -> wall.takeOut(-1));
        unchanged("takeOut, free", Check.REFUSED, wall -> wall.takeOut(41));
        unchanged("takeOut, seed", Check.REFUSED, wall -> wall.takeOut(17));
        unchanged("grow, number", Check.REFUSED, wall -> wall.grow(43));
        unchanged("strength, glue", Check.REFUSED, wall -> wall.strength(0, 0));
        unchanged("strength, already", Check.REFUSED, wall -> wall.strength(2, 3));
        unchanged("need, number", Check.REFUSED, wall -> wall.need(0));
        unchanged("need, already", Check.REFUSED, wall -> wall.need(2));
        same("grow, stalled", UnchangedTest::stall, Check.REFUSED, wall -> wall.grow(1));
    }

    private static void stall(GluedWall wall) {
        prepare(wall);
        wall.need(6);
    }

    private void wrongQuestions() {
        unchanged("glueOf", Check.BOUNDS, wall -> wall.glueOf(8, 0, 0));
        unchanged("glueOf", Check.ARGUMENT, wall -> wall.glueOf(0, 4, 0));
        unchanged("strengthOf", Check.ARGUMENT, wall -> wall.strengthOf(7));
        unchanged("brickAt", Check.BOUNDS, wall -> wall.brickAt(42, true));
        unchanged("brickAt", Check.NONE_SUCH, wall -> wall.brickAt(41, true));
        unchanged("hold", Check.NONE_SUCH, wall -> wall.hold(41));
        unchanged("holdAgain", Check.NONE_SUCH, wall -> wall.holdAgain(41));
        unchanged("wouldHold", Check.NONE_SUCH, wall -> wall.wouldHold(17, 0, 0));
        unchanged("wouldHold", Check.BOUNDS, wall -> wall.wouldHold(41, 8, 0));
        unchanged("stands", Check.NONE_SUCH, wall -> wall.stands(41));
        unchanged("falls", Check.BOUNDS, wall -> wall.falls(-1));
        unchanged("errorsAt", Check.NONE_SUCH, wall -> wall.errorsAt(41));
        unchanged("choices", Check.NONE_SUCH, wall -> wall.choices(17));
        unchanged("inRow", Check.BOUNDS, wall -> wall.inRow(6, false));
        unchanged("weakest", Check.NONE_SUCH, wall -> wall.weakest(40));
        unchanged("reason", Check.ARGUMENT, wall -> wall.reason(3));
        unchanged("reason", Check.NONE_SUCH, wall -> wall.reason(0));
        unchanged("line", Check.BOUNDS, wall -> wall.line(6));
        unchanged("character", Check.BOUNDS, wall -> wall.character(28));
        unchanged("account", Check.ARGUMENT, wall -> wall.account(10));
    }

    private void rightQuestions() {
        unchanged("stands", true, wall -> wall.stands(17));
        unchanged("fallen", 0, GluedWall::fallen);
        unchanged("falls", 5, wall -> wall.falls(17));
        unchanged("growsTo, stuck and next", true, wall -> wall.growsTo() >= 6 && wall.stuck() >= 0
                && Check.answer(wall::nextPlace).length() > 0 && Check.answer(wall::nextBrick).length() > 0);
        unchanged("weakest", true, wall -> wall.weakest(0) >= 0);
        unchanged("means", true, wall -> wall.meanHold() >= 0 && wall.standing() >= 0);
        unchanged("hold", true, wall -> wall.hold(17) == wall.holdAgain(17));
        unchanged("wouldHold", 0, wall -> wall.wouldHold(41, 0, 0));
        unchanged("choices", 0, wall -> wall.choices(41));
        unchanged("errors", true, wall -> wall.errors() * 2 >= wall.errorsAt(17));
    }

    private void emptyObject() {
        same("undo", UnchangedTest::doNothing, Check.STATE, GluedWall::undo);
        same("restore", UnchangedTest::doNothing, Check.STATE, GluedWall::restore);
        same("meanHold", UnchangedTest::doNothing, Check.ARITHMETIC, GluedWall::meanHold);
        same("standing", UnchangedTest::doNothing, Check.ARITHMETIC, GluedWall::standing);
        same("seed", UnchangedTest::doNothing, Check.NONE_SUCH, GluedWall::seed);
        same("nextPlace", UnchangedTest::doNothing, Check.NONE_SUCH, GluedWall::nextPlace);
        same("nextBrick", UnchangedTest::doNothing, Check.NONE_SUCH, GluedWall::nextBrick);
        same("grow", UnchangedTest::doNothing, Check.REFUSED, wall -> wall.grow(42));
        same("lay", UnchangedTest::doNothing, Check.REFUSED, wall -> wall.lay(0, 0, 0));
    }

    private void fullBuffer() {
        Consumer<GluedWall> fill = wall -> Check.write(wall, "n2".repeat(30));
        same("append", fill, Check.STATE, wall -> wall.append(';'));
    }

    /** Commands that throw leave all but the buffer, and the fault position of a fault. */
    private void commandsEmptyTheBuffer() {
        Consumer<GluedWall> emptied = wall -> {
            prepare(wall);
            Check.answer(wall::commands);
        };
        String due = Picture.after(emptied);
        String got = Picture.after(wall -> {
            prepare(wall);
            Check.answer(() -> Check.run(wall, "7:0;n3;s33;k"));
            Check.answer(() -> Check.run(wall, "l1"));
        });
        check.same("commands with a fault", due, got);
        String refused = Picture.after(wall -> {
            prepare(wall);
            Check.answer(() -> Check.run(wall, "9:1;n3;s33;t19;n3"));
            Check.answer(() -> Check.run(wall, "n3;s33;g5;t41"));
            Check.answer(() -> Check.run(wall, "l1"));
        });
        check.same("commands that are refused", due, refused);
    }

    private interface Ask {
        Object of(GluedWall wall);
    }

    private void unchanged(String what, Object due, Ask ask) {
        same(what, UnchangedTest::prepare, due, ask);
    }

    private void same(String what, Consumer<GluedWall> prepared, Object due, Ask ask) {
        GluedWall asked = new GluedWall();
        prepared.accept(asked);
        check.due(what, due, () -> ask.of(asked));
        String before = Picture.after(prepared);
        String after = Picture.after(wall -> {
            prepared.accept(wall);
            Check.answer(() -> ask.of(wall));
        });
        check.same(what + " leaves the state", before, after);
    }
}
