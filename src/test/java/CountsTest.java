/** Promises 18, 19, 25, 26 and 33 to 35. */
public final class CountsTest {
    private static final int[] FAR = {Integer.MIN_VALUE, -1, 42, Integer.MAX_VALUE};

    private final Check check = new Check();

    public static void main(String[] args) {
        CountsTest test = new CountsTest();
        test.errors();
        test.inRow();
        test.weakest();
        test.firstPlace();
        test.meanHold();
        test.standing();
        test.accounts();
        test.accountOfChanges();
        test.check.end();
    }

    /** Bricks of unlike kinds side by side: they are laid by the need of 1 with a strong neighbour. */
    private void errors() {
        GluedWall wall = new GluedWall();
        wall.kind(1, 1, 1, 1);
        wall.kind(1, 2, 3, 0);
        wall.need(1);
        check.due("none", 0, wall::errors);
        wall.lay(16, 0, 0);
        wall.lay(17, 0, 0);
        wall.lay(24, 1, 0);
        check.due("alike", 0, wall::errors);
        wall.lay(23, 0, 0);
        check.due("glue 0 is no error", 0, wall::errors);
        wall.lay(18, 0, 0);
        wall.lay(25, 0, 0);
        check.due("1 beside 2", 1, wall::errors);
        wall.lay(30, 0, 0);
        wall.lay(31, 0, 0);
        check.due("1 below 3", 2, wall::errors);
        check.due("both at 24", 2, () -> wall.errorsAt(24));
        check.due("at 25", 1, () -> wall.errorsAt(25));
        check.due("at 31", 1, () -> wall.errorsAt(31));
        check.due("at 23", 0, () -> wall.errorsAt(23));
        check.due("at 17", 0, () -> wall.errorsAt(17));
        wall.strength(1, 0);
        check.due("strength does not matter", 2, wall::errors);
        for (int number : FAR) {
            check.due("errorsAt " + number, Check.BOUNDS, () -> wall.errorsAt(number));
        }
        check.due("free", Check.NONE_SUCH, () -> wall.errorsAt(0));
    }

    private void inRow() {
        GluedWall wall = cross();
        int[] rows = {0, 1, 3, 1, 0, 0};
        int[] columns = {0, 0, 0, 0, 1, 3, 1};
        for (int row = 0; row < 6; row++) {
            int which = row;
            check.due("row " + row, rows[row], () -> wall.inRow(which, false));
        }
        for (int column = 0; column < 7; column++) {
            int which = column;
            check.due("column " + column, columns[column], () -> wall.inRow(which, true));
        }
        check.due("row 6", Check.BOUNDS, () -> wall.inRow(6, false));
        check.due("column 7", Check.BOUNDS, () -> wall.inRow(7, true));
        for (int number : FAR) {
            check.due("row " + number, Check.BOUNDS, () -> wall.inRow(number, false));
            check.due("column " + number, Check.BOUNDS, () -> wall.inRow(number, true));
        }
    }

    /** A brick with four neighbours. */
    private static GluedWall cross() {
        GluedWall wall = new GluedWall();
        wall.kind(1, 2, 1, 2);
        wall.need(1);
        wall.strength(2, 3);
        for (int place : new int[] {19, 20, 26, 18, 12}) {
            wall.lay(place, 0, 0);
        }
        return wall;
    }

    private void weakest() {
        GluedWall wall = cross();
        int[] order = {12, 26, 18, 20, 19};
        for (int rank = 0; rank < order.length; rank++) {
            int which = rank;
            check.due("weakest " + rank, order[rank], () -> wall.weakest(which));
        }
        check.due("a sixth", Check.NONE_SUCH, () -> wall.weakest(5));
        for (int number : FAR) {
            check.due("weakest " + number, Check.NONE_SUCH, () -> wall.weakest(number));
        }
        wall.strength(1, 3);
        check.due("the most hold that there is", 19, () -> wall.weakest(4));
        check.due("hold", 12, () -> wall.hold(19));
        check.due("of several the lowest", 12, () -> wall.weakest(0));
        check.due("no bricks", Check.NONE_SUCH, () -> new GluedWall().weakest(0));
    }

    /** The first place counts in all of them, and glue 6 as all the others. */
    private void firstPlace() {
        GluedWall wall = new GluedWall();
        Check.run(wall, "k6666;k1611;n1;l0:0;l1:0;l7:1***");
        check.due("errors", 0, wall::errors);
        check.due("holds", 4, () -> wall.account(6));
        check.due("pairs", 2, () -> wall.account(7));
        check.due("row", 2, () -> wall.inRow(0, false));
        check.due("column", 2, () -> wall.inRow(0, true));
        check.due("hold of glue 6", 2, () -> wall.hold(0));
        check.due("again", 2, () -> wall.holdAgain(0));
        check.due("the first has the most hold", 0, () -> wall.weakest(2));
        check.due("another at odds with it", 4, () -> Check.run(wall, "t7;l8:1***;l7:1*;s63"));
        check.due("one error", 1, wall::errors);
        check.due("at the first", 1, () -> wall.errorsAt(0));
        check.due("at the other", 1, () -> wall.errorsAt(7));
        check.due("not between them", 0, () -> wall.errorsAt(1));
        GluedWall alone = new GluedWall();
        Check.run(alone, "k0000;l0:0");
        check.due("alone and without hold", 0, () -> alone.weakest(0));
        check.due("no second", Check.NONE_SUCH, () -> alone.weakest(1));
    }

    private void meanHold() {
        check.due("no bricks", Check.ARITHMETIC, () -> new GluedWall().meanHold());
        GluedWall wall = cross();
        check.due("mean", 16.0 / 5.0, wall::meanHold);
        wall.strength(2, 2);
        check.due("mean", 12.0 / 5.0, wall::meanHold);
        wall.takeOut(18);
        wall.takeOut(20);
        check.due("thirds", 4.0 / 3.0, wall::meanHold);
        wall.takeOut(12);
        wall.takeOut(26);
        check.due("alone", 0.0, wall::meanHold);
    }

    private void standing() {
        check.due("no bricks", Check.ARITHMETIC, () -> new GluedWall().standing());
        GluedWall wall = cross();
        check.due("all", 1.0f, wall::standing);
        wall.strength(2, 0);
        check.due("three of five", 3f / 5f, wall::standing);
        wall.takeOut(18);
        wall.strength(1, 0);
        check.due("one of four", 0.25f, wall::standing);
        wall.takeOut(20);
        check.due("one of three", 1f / 3f, wall::standing);
        wall.takeOut(19);
        check.due("none", 0.0f, wall::standing);
        wall.takeOut(12);
        wall.takeOut(26);
        check.due("no bricks again", Check.ARITHMETIC, wall::standing);
    }

    private void accounts() {
        GluedWall wall = cross();
        wall.grow(1);
        wall.takeOut(26);
        Check.write(wall, "g1");
        int[] due = {1, 5, 1, 6, 1, 1, 2 * (1 + 1 + 3 + 3), 4, 8, 2};
        for (int what = 0; what < due.length; what++) {
            int which = what;
            check.due("account " + what, due[what], () -> wall.account(which));
        }
        check.due("it grew at 5", 0, () -> wall.brickAt(5, false));
        check.due("account 10", Check.ARGUMENT, () -> wall.account(10));
        for (int number : FAR) {
            check.due("account " + number, Check.ARGUMENT, () -> wall.account(number));
        }
        check.due("commands count, too", 7, () -> {
            wall.commands();
            return wall.account(3);
        });
        check.due("grown", 2, () -> wall.account(4));
        check.due("buffer", 0, () -> wall.account(9));
        check.due("neighbours need no glue", 2, () -> {
            GluedWall pairs = new GluedWall();
            pairs.kind(1, 1, 1, 1);
            pairs.need(1);
            pairs.lay(0, 0, 0);
            pairs.lay(1, 0, 0);
            pairs.lay(7, 0, 0);
            pairs.strength(1, 0);
            return pairs.account(7);
        });
    }

    private void accountOfChanges() {
        GluedWall wall = new GluedWall();
        for (int change = 1; change <= 10; change++) {
            wall.need(change % 2 == 0 ? 2 : 1);
            check.due("after " + change, Math.min(change, 8), () -> wall.account(8));
        }
    }
}
