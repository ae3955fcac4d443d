import java.util.List;
import java.util.function.Consumer;

/** Promises 36 to 38. */
public final class HistoryTest {
    private final Check check = new Check();

    public static void main(String[] args) {
        HistoryTest test = new HistoryTest();
        test.undoEach();
        test.undoBringsAllBack();
        test.undoAtMostEight();
        test.undoAndGoOn();
        test.undoLeaves();
        test.saveAndRestore();
        test.restoreForgets();
        test.snapshotIsItsOwn();
        test.allKindsAreSaved();
        test.check.end();
    }

    private static GluedWall seeded() {
        GluedWall wall = new GluedWall();
        Check.run(wall, "k1111;n1;l17:0");
        return wall;
    }

    private void undoEach() {
        GluedWall wall = seeded();
        check.due("nothing before", 0, wall::undo);
        check.due("no kinds", 0, () -> wall.account(0));
        check.due("need", 2, () -> wall.account(2));
        check.due("no seed", Check.NONE_SUCH, wall::seed);
        check.due("laid", 0, () -> wall.account(3));
        check.due("no more", Check.STATE, wall::undo);
        wall.kind(1, 1, 1, 1);
        wall.lay(0, 0, 0);
        wall.need(1);
        wall.grow(3);
        wall.strength(1, 3);
        wall.takeOut(3);
        check.due("changes", 6, () -> wall.account(8));
        check.due("takeOut", 5, wall::undo);
        check.due("the brick", 0, () -> wall.brickAt(3, false));
        check.due("taken", 0, () -> wall.account(5));
        check.due("strength", 4, wall::undo);
        check.due("strength", 1, () -> wall.strengthOf(1));
        check.due("grow", 3, wall::undo);
        check.due("bricks", 1, () -> wall.account(1));
        check.due("grown", 0, () -> wall.account(4));
        check.due("laid", 1, () -> wall.account(3));
        check.due("need", 2, wall::undo);
        check.due("need", 2, () -> wall.account(2));
        check.due("lay", 1, wall::undo);
        check.due("no seed", Check.NONE_SUCH, wall::seed);
        check.due("kind", 0, wall::undo);
        check.due("no kind", Check.BOUNDS, () -> wall.glueOf(0, 0, 0));
        check.due("a kind again", 0, () -> wall.kind(2, 2, 2, 2));
    }

    /** Each change is undone beside changes of all other sorts, and then made for good. */
    private void undoBringsAllBack() {
        GluedWall wall = new GluedWall();
        List<Consumer<GluedWall>> changes = List.of(w -> w.kind(1, 2, 3, 4), w -> w.need(1), w -> w.kind(6, 6, 6, 6),
                w -> w.strength(6, 3), w -> w.lay(8, 1, 1), w -> w.kind(2, 2, 2, 2), w -> w.lay(9, 1, 0),
                w -> Check.run(w, "k1111;s62;n2;l7:1**;g2;t7"), w -> w.grow(3), w -> w.takeOut(9),
                w -> w.strength(6, 0), w -> w.need(6), w -> w.takeOut(8), w -> w.lay(41, 3, 2), w -> w.kind(0, 0, 0, 1));
        for (int i = 0; i < changes.size(); i++) {
            String before = summary(wall);
            changes.get(i).accept(wall);
            check.same("change " + i + " shows", false, before.equals(summary(wall)));
            wall.undo();
            check.same("change " + i + " undone", before, summary(wall));
            changes.get(i).accept(wall);
        }
    }

    private static String summary(GluedWall wall) {
        StringBuilder text = new StringBuilder(Check.wholeWall(wall)).append(Check.answer(wall::seed));
        for (int number = 0; number < 8; number++) {
            int what = number;
            text.append(' ').append(wall.account(what));
            for (int side = 0; side < 4; side++) {
                int which = side;
                text.append(Check.answer(() -> wall.glueOf(what, 0, which)));
            }
            text.append(Check.answer(() -> wall.strengthOf(what)));
        }
        return text.toString();
    }

    private void undoAtMostEight() {
        GluedWall wall = new GluedWall();
        for (int change = 0; change < 11; change++) {
            wall.strength(change % 6 + 1, change < 6 ? 2 : 3);
        }
        for (int left = 7; left >= 0; left--) {
            check.due("undo", left, wall::undo);
        }
        check.due("no more", Check.STATE, wall::undo);
        check.due("the third stays", 2, () -> wall.strengthOf(3));
        check.due("the fourth does not", 1, () -> wall.strengthOf(4));
        check.due("the first is as before its second", 2, () -> wall.strengthOf(1));
    }

    private void undoAndGoOn() {
        GluedWall wall = new GluedWall();
        for (int glue = 1; glue <= 6; glue++) {
            wall.strength(glue, 3);
        }
        check.due("undo", 5, wall::undo);
        check.due("undo", 4, wall::undo);
        wall.strength(5, 0);
        check.due("changes", 5, () -> wall.account(8));
        check.due("undo", 4, wall::undo);
        check.due("strength", 1, () -> wall.strengthOf(5));
        check.due("undo", 3, wall::undo);
        check.due("strength", 1, () -> wall.strengthOf(4));
        check.due("strength", 3, () -> wall.strengthOf(3));
        check.due("a refused call is no change", 3, () -> {
            Check.answer(() -> wall.need(2));
            return wall.account(8);
        });
        for (int change = 0; change < 7; change++) {
            wall.need(change % 2 == 0 ? 1 : 2);
        }
        check.due("at most eight", 8, () -> wall.account(8));
    }

    private void undoLeaves() {
        GluedWall wall = seeded();
        check.due("fault", Check.ARGUMENT, () -> Check.run(wall, "l1"));
        check.due("refused", Check.REFUSED, () -> Check.run(wall, "n2;n2"));
        check.due("line", 7, () -> wall.line(2));
        Check.write(wall, "g1");
        check.due("fault is of the latest call", -1, wall::faultPosition);
        check.due("undo", 0, wall::undo);
        check.due("line", '0', () -> wall.character(3));
        check.due("buffer", 2, () -> wall.account(9));
        check.due("reason", 9, () -> wall.reason(0));
        check.due("command", 1, () -> wall.reason(2));
    }

    private void saveAndRestore() {
        GluedWall wall = new GluedWall();
        check.due("an empty snapshot", 0, wall::save);
        wall.kind(1, 1, 1, 1);
        wall.need(1);
        wall.lay(17, 0, 1);
        wall.grow(2);
        wall.takeOut(3);
        wall.strength(6, 0);
        check.due("in place of the earlier one", 2, wall::save);
        wall.kind(2, 2, 2, 2);
        wall.need(4);
        wall.strength(1, 3);
        wall.strength(6, 2);
        wall.takeOut(10);
        wall.takeOut(17);
        wall.lay(0, 1, 0);
        check.due("restored", 2, wall::restore);
        int[] due = {1, 2, 1, 3, 2, 1, 2, 1, 0, 0};
        for (int what = 0; what < due.length; what++) {
            int which = what;
            check.due("account " + what, due[what], () -> wall.account(which));
        }
        check.due("seed", 17, wall::seed);
        check.due("strength", 1, () -> wall.strengthOf(1));
        check.due("strength", 0, () -> wall.strengthOf(6));
        check.due("wall", "......./...0.../...0*.../......./......./.......", () -> Check.wholeWall(wall));
        wall.grow(42);
        check.due("the snapshot is kept", 2, wall::restore);
        check.due("bricks", 2, () -> wall.account(1));
    }

    private void restoreForgets() {
        GluedWall wall = seeded();
        check.due("no snapshot", Check.STATE, wall::restore);
        check.due("nothing is forgotten", 1, () -> wall.account(8));
        wall.save();
        check.due("save is no change", 1, () -> wall.account(8));
        wall.grow(1);
        wall.grow(1);
        check.due("changes", 3, () -> wall.account(8));
        check.due("refused", Check.REFUSED, () -> wall.lay(17, 0, 0));
        check.due("fault", Check.ARGUMENT, () -> Check.run(wall, "l1"));
        wall.line(2);
        Check.write(wall, "g1");
        check.due("restored", 1, wall::restore);
        check.due("changes", 0, () -> wall.account(8));
        check.due("no undo", Check.STATE, wall::undo);
        check.due("fault stays", 2, wall::faultPosition);
        check.due("reason stays", 4, () -> wall.reason(0));
        check.due("line stays", '0', () -> wall.character(3));
        check.due("buffer stays", 2, () -> wall.account(9));
        wall.grow(3);
        check.due("undo after restore", 0, wall::undo);
        check.due("bricks", 1, () -> wall.account(1));
    }

    private void allKindsAreSaved() {
        GluedWall wall = new GluedWall();
        Check.run(wall, "k1234;k2345;k3456;k4561");
        Check.run(wall, "k5612;k6123;k1010;k0202");
        wall.save();
        String saved = summary(wall);
        wall.undo();
        wall.undo();
        Check.run(wall, "k6666;k6666;k6666;k6666;k6666;k6666;k6666;k6666;s53;n4");
        wall.restore();
        check.same("restored", saved, summary(wall));
    }

    private void snapshotIsItsOwn() {
        GluedWall wall = seeded();
        wall.grow(1);
        wall.save();
        check.due("undo", 1, wall::undo);
        check.due("undo", 0, wall::undo);
        check.due("bricks", 0, () -> wall.account(1));
        check.due("growsTo and next do not touch it", 0, wall::growsTo);
        check.due("restored", 2, wall::restore);
        check.due("grown", 1, () -> wall.account(4));
        check.due("refused commands do not touch it", Check.REFUSED, () -> Check.run(wall, "g3;t17"));
        check.due("restored", 2, wall::restore);
    }
}
