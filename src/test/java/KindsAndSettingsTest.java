/** Promises 1, 2 and 6 to 9. */
public final class KindsAndSettingsTest {
    private static final int[] FAR = {Integer.MIN_VALUE, -8, -1, 8, 9, 42, Integer.MAX_VALUE};

    private final Check check = new Check();

    public static void main(String[] args) {
        KindsAndSettingsTest test = new KindsAndSettingsTest();
        test.newObject();
        test.kind();
        test.kindOutOfRange();
        test.ninthKind();
        test.strength();
        test.strengthRefused();
        test.need();
        test.needRefused();
        test.glueOf();
        test.strengthOf();
        test.check.end();
    }

    private void newObject() {
        GluedWall wall = new GluedWall();
        int[] accounts = {0, 0, 2, 0, 0, 0, 0, 0, 0, 0};
        for (int what = 0; what < accounts.length; what++) {
            int which = what;
            check.due("new: account " + what, accounts[what], () -> wall.account(which));
        }
        for (int glue = 0; glue <= 6; glue++) {
            int which = glue;
            check.due("new: strength of " + glue, glue == 0 ? 0 : 1, () -> wall.strengthOf(which));
        }
        check.due("new: seed", Check.NONE_SUCH, wall::seed);
        check.due("new: reason", Check.NONE_SUCH, () -> wall.reason(0));
        check.due("new: fault", -1, wall::faultPosition);
        check.due("new: character", Check.BOUNDS, () -> wall.character(0));
        check.due("new: undo", Check.STATE, wall::undo);
        check.due("new: restore", Check.STATE, wall::restore);
        check.due("new: wall", "......./......./......./......./......./.......", () -> Check.wholeWall(wall));
        check.due("new: another object is its own", 0, () -> {
            wall.kind(1, 1, 1, 1);
            return new GluedWall().account(0);
        });
    }

    private void kind() {
        GluedWall wall = new GluedWall();
        check.due("first kind", 0, () -> wall.kind(1, 2, 3, 4));
        check.due("second kind", 1, () -> wall.kind(0, 6, 5, 0));
        check.due("the same kind again", 2, () -> wall.kind(1, 2, 3, 4));
        check.due("kinds", 3, () -> wall.account(0));
        check.due("changes", 3, () -> wall.account(8));
    }

    private void kindOutOfRange() {
        GluedWall wall = new GluedWall();
        for (int glue : new int[] {-1, 7, Integer.MIN_VALUE, Integer.MAX_VALUE}) {
            check.refused("above " + glue, wall, 1, 0, () -> wall.kind(glue, 0, 0, 0));
            check.refused("right " + glue, wall, 1, 0, () -> wall.kind(0, glue, 0, 0));
            check.refused("below " + glue, wall, 1, 0, () -> wall.kind(0, 0, glue, 0));
            check.refused("left " + glue, wall, 1, 0, () -> wall.kind(0, 0, 0, glue));
        }
        check.due("no kinds", 0, () -> wall.account(0));
        check.due("no changes", 0, () -> wall.account(8));
    }

    private void ninthKind() {
        GluedWall wall = new GluedWall();
        for (int number = 0; number < 8; number++) {
            int due = number;
            check.due("kind " + number, due, () -> wall.kind(due % 7, 6, 6, 6));
        }
        check.refused("a ninth kind", wall, 2, 8, () -> wall.kind(0, 0, 0, 0));
        check.refused("a ninth kind, out of range", wall, 1, 0, () -> wall.kind(0, 0, 0, 7));
        check.due("kinds", 8, () -> wall.account(0));
        check.due("the last", 6, () -> wall.glueOf(6, 0, 0));
    }

    private void strength() {
        GluedWall wall = new GluedWall();
        for (int glue = 1; glue <= 6; glue++) {
            int which = glue;
            check.due("to 3", 1, () -> wall.strength(which, 3));
            check.due("to 0", 3, () -> wall.strength(which, 0));
            check.due("to 2", 0, () -> wall.strength(which, 2));
            check.due("now", 2, () -> wall.strengthOf(which));
        }
        wall.kind(1, 1, 1, 1);
        wall.lay(0, 0, 0);
        wall.lay(1, 0, 0);
        check.due("to 0 with bricks", 2, () -> wall.strength(1, 0));
        check.due("bricks stay", 2, () -> wall.account(1));
        check.due("but fall", 1, wall::fallen);
        check.due("and stand again", 0, () -> {
            wall.strength(1, 1);
            return wall.fallen();
        });
    }

    private void strengthRefused() {
        GluedWall wall = new GluedWall();
        for (int number : FAR) {
            check.refused("glue " + number, wall, 1, 0, () -> wall.strength(number, 2));
            check.refused("strength " + number, wall, 1, 0, () -> wall.strength(2, number));
        }
        check.refused("glue 0", wall, 1, 0, () -> wall.strength(0, 0));
        check.refused("glue 7", wall, 1, 0, () -> wall.strength(7, 1));
        check.refused("strength 4", wall, 1, 0, () -> wall.strength(1, 4));
        check.refused("so already", wall, 9, 0, () -> wall.strength(6, 1));
        check.due("no changes", 0, () -> wall.account(8));
    }

    private void need() {
        GluedWall wall = new GluedWall();
        check.due("to 6", 2, () -> wall.need(6));
        check.due("to 1", 6, () -> wall.need(1));
        check.due("now", 1, () -> wall.account(2));
        wall.kind(1, 1, 1, 1);
        wall.lay(0, 0, 0);
        wall.lay(1, 0, 0);
        check.due("to 5 with bricks", 1, () -> wall.need(5));
        check.due("bricks stay", 2, () -> wall.account(1));
        check.due("and stand", 0, wall::fallen);
    }

    private void needRefused() {
        GluedWall wall = new GluedWall();
        for (int number : FAR) {
            check.refused("need " + number, wall, 1, 0, () -> wall.need(number));
        }
        check.refused("need 0", wall, 1, 0, () -> wall.need(0));
        check.refused("need 7", wall, 1, 0, () -> wall.need(7));
        check.refused("so already", wall, 9, 0, () -> wall.need(2));
        check.due("no changes", 0, () -> wall.account(8));
    }

    private void glueOf() {
        GluedWall wall = new GluedWall();
        check.due("no kinds", Check.BOUNDS, () -> wall.glueOf(0, 0, 0));
        wall.kind(6, 6, 6, 6);
        wall.kind(1, 2, 3, 4);
        int[][] due = {{1, 2, 3, 4}, {4, 1, 2, 3}, {3, 4, 1, 2}, {2, 3, 4, 1}};
        for (int turn = 0; turn < 4; turn++) {
            for (int side = 0; side < 4; side++) {
                int quarters = turn;
                int which = side;
                check.due("turn " + turn + " side " + side, due[turn][side], () -> wall.glueOf(1, quarters, which));
            }
        }
        for (int number : FAR) {
            check.due("kind " + number, Check.BOUNDS, () -> wall.glueOf(number, 0, 0));
            check.due("turn " + number, Check.ARGUMENT, () -> wall.glueOf(0, number, 0));
            check.due("side " + number, Check.ARGUMENT, () -> wall.glueOf(0, 0, number));
            check.due("all " + number, Check.BOUNDS, () -> wall.glueOf(number, number, number));
        }
        check.due("kind 2", Check.BOUNDS, () -> wall.glueOf(2, 0, 0));
        check.due("turn 4", Check.ARGUMENT, () -> wall.glueOf(1, 4, 0));
        check.due("side 4", Check.ARGUMENT, () -> wall.glueOf(1, 0, 4));
    }

    private void strengthOf() {
        GluedWall wall = new GluedWall();
        wall.strength(6, 3);
        check.due("glue 0", 0, () -> wall.strengthOf(0));
        check.due("glue 5", 1, () -> wall.strengthOf(5));
        check.due("glue 6", 3, () -> wall.strengthOf(6));
        check.due("glue 7", Check.ARGUMENT, () -> wall.strengthOf(7));
        for (int number : FAR) {
            check.due("glue " + number, Check.ARGUMENT, () -> wall.strengthOf(number));
        }
    }
}
