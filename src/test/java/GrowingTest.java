/** Promises 5 and 20 to 24. */
public final class GrowingTest {
    private static final int[] FAR = {Integer.MIN_VALUE, -1, 42, Integer.MAX_VALUE};

    private final Check check = new Check();

    public static void main(String[] args) {
        GrowingTest test = new GrowingTest();
        test.grow();
        test.growRefused();
        test.lowestPlace();
        test.firstPlace();
        test.lowerPlaceOpens();
        test.mostHold();
        test.lowestKindAndTurn();
        test.noErrors();
        test.glueZeroIsNoError();
        test.withoutSeed();
        test.needOfMore();
        test.choices();
        test.stuck();
        test.growsTo();
        test.check.end();
    }

    private static GluedWall fullGlue() {
        GluedWall wall = new GluedWall();
        wall.kind(1, 1, 1, 1);
        wall.need(1);
        return wall;
    }

    private void grow() {
        GluedWall wall = fullGlue();
        wall.lay(41, 0, 0);
        check.due("one", 1, () -> wall.grow(1));
        check.due("at the lowest place", 0, () -> wall.brickAt(34, false));
        check.due("two", 2, () -> wall.grow(2));
        check.due("grown", 3, () -> wall.account(4));
        check.due("laid", 4, () -> wall.account(3));
        check.due("changes", 5, () -> wall.account(8));
        check.due("all the rest", 38, () -> wall.grow(42));
        check.due("bricks", 42, () -> wall.account(1));
        check.due("seed", 41, wall::seed);
        check.due("as many as are laid", 39, () -> {
            GluedWall other = fullGlue();
            other.lay(0, 0, 0);
            return other.grow(39);
        });
    }

    private void growRefused() {
        GluedWall wall = fullGlue();
        for (int number : new int[] {Integer.MIN_VALUE, -1, 0, 43, Integer.MAX_VALUE}) {
            check.refused("bricks " + number, wall, 1, 0, () -> wall.grow(number));
        }
        check.refused("no bricks", wall, 8, 0, () -> wall.grow(1));
        wall.need(2);
        wall.lay(17, 0, 0);
        check.refused("four stuck", wall, 8, 4, () -> wall.grow(42));
        check.refused("out of range before stalled", wall, 1, 0, () -> wall.grow(0));
        check.due("nothing has grown", 0, () -> wall.account(4));
        wall.need(1);
        wall.grow(42);
        check.refused("full", wall, 8, 0, () -> wall.grow(1));
    }

    private void lowestPlace() {
        GluedWall wall = fullGlue();
        wall.lay(17, 0, 0);
        check.due("above", 10, wall::nextPlace);
        check.due("brick", 0, wall::nextBrick);
        wall.grow(1);
        check.due("above again", 3, wall::nextPlace);
        wall.grow(1);
        check.due("left", 2, wall::nextPlace);
        wall.grow(3);
        check.due("row by row", "0000.../...0.../...0.../......./......./.......", () -> Check.wholeWall(wall));
        check.due("then to the right", 4, wall::nextPlace);
    }

    private void firstPlace() {
        GluedWall wall = new GluedWall();
        Check.run(wall, "k2000;k0200;k0120;k1111;k1333;n1;l8:3;l1:3");
        check.due("place", 0, wall::nextPlace);
        check.due("brick", 4 * 2, wall::nextBrick);
        check.due("choices to the right", 1 + 4 + 1, () -> wall.choices(2));
        wall.grow(1);
        check.due("it grew there", 2, () -> wall.brickAt(0, false));
        GluedWall late = new GluedWall();
        Check.run(late, "k2222;k2222;k2222;k0013;k1000;k0111;n1;l7:4");
        check.due("a high kind, turned thrice", 4 * 3 + 0, late::nextBrick);
        Check.run(late, "t7;l17:4");
        check.due("place", 10, late::nextPlace);
        GluedWall last = new GluedWall();
        Check.run(last, "k2222;k3333;k4444;k5555;k2222;k3333;k4444;k1000;n1;l17:7");
        check.due("the last kind, turned twice", 4 * 7 + 2, last::nextBrick);
        Check.run(last, "t17;l17:7*");
        check.due("the last kind, turned thrice", 4 * 7 + 3, last::nextBrick);
    }

    /** A brick that grows can open a place above it or to its left that was closed before. */
    private void lowerPlaceOpens() {
        GluedWall wall = new GluedWall();
        wall.kind(2, 0, 0, 1);
        wall.kind(0, 1, 0, 0);
        wall.need(1);
        wall.lay(14, 1, 0);
        check.due("to the right", 15, wall::nextPlace);
        wall.grow(1);
        check.due("then above", 8, wall::nextPlace);
        wall.grow(1);
        check.due("to the right again", 9, wall::nextPlace);
        check.due("until it is stalled", 6, wall::growsTo);
        check.due("three more", 3, () -> wall.grow(42));
        check.due("row 0", "..0**0...", () -> Check.line(wall, 0));
        check.due("row 1", ".0**0....", () -> Check.line(wall, 1));
        check.due("row 2", "10.....", () -> Check.line(wall, 2));
        wall.takeOut(3);
        wall.takeOut(2);
        wall.takeOut(9);
        wall.takeOut(8);
        wall.takeOut(15);
        check.due("the same at once", 5, () -> wall.grow(42));
        check.due("row 0", "..0**0...", () -> Check.line(wall, 0));
    }

    private void mostHold() {
        GluedWall wall = new GluedWall();
        wall.kind(0, 0, 0, 1);
        wall.kind(0, 0, 0, 2);
        wall.kind(1, 1, 1, 1);
        wall.kind(0, 1, 1, 0);
        wall.kind(1, 0, 0, 1);
        wall.need(1);
        wall.lay(0, 3, 0);
        check.due("one side", 0, wall::nextBrick);
        wall.lay(1, 2, 0);
        wall.lay(7, 2, 0);
        check.due("after two sides", 2, wall::nextPlace);
        check.due("the lowest kind", 0, wall::nextBrick);
        wall.lay(2, 0, 0);
        check.due("two sides hold", 8, wall::nextPlace);
        check.due("more hold", 4 * 2, wall::nextBrick);
        wall.strength(1, 3);
        check.due("much more hold", 4 * 2, wall::nextBrick);
    }

    private void lowestKindAndTurn() {
        GluedWall wall = new GluedWall();
        wall.kind(2, 2, 2, 2);
        wall.kind(1, 0, 0, 0);
        wall.kind(0, 0, 1, 0);
        wall.kind(1, 1, 1, 1);
        wall.need(1);
        wall.lay(0, 3, 0);
        check.due("place", 1, wall::nextPlace);
        check.due("turned thrice before the next kind", 4 * 1 + 3, wall::nextBrick);
        wall.grow(1);
        check.due("kind", 1, () -> wall.brickAt(1, false));
        check.due("turn", 3, () -> wall.brickAt(1, true));
        check.due("place", 7, wall::nextPlace);
        check.due("not turned", 4 * 1, wall::nextBrick);
    }

    /** Between glue 1 at 8 and glue 2 at 10 the bricks of one glue hold, but only the one of both makes no error. */
    private void noErrors() {
        GluedWall wall = new GluedWall();
        Check.run(wall, "k1111;k2222;k0201;n1;l8:0;l15:0;l16:2;l17:1;l10:1");
        check.due("glue 1 would hold", 1, () -> wall.wouldHold(9, 0, 0));
        check.due("glue 2 would hold", 1, () -> wall.wouldHold(9, 1, 0));
        check.due("both would", 2, () -> wall.wouldHold(9, 2, 0));
        check.due("one choice", 1, () -> wall.choices(9));
        check.due("some grow", true, () -> wall.grow(42) > 0);
        check.due("it is the one of both", 2, () -> wall.brickAt(9, false));
        check.due("no errors", 0, wall::errors);
        GluedWall other = new GluedWall();
        Check.run(other, "k1111;k2222;k0201;n1;l8:0;l15:0;l16:2;l17:1;l10:1");
        Check.run(other, "l9:0;g42");
        check.due("an error that is laid stays the only one", 1, other::errors);
        GluedWall weak = new GluedWall();
        Check.run(weak, "k1111;k2222;k0201;n1;l0:0;l7:0;l8:2;l9:1;l2:1;s20");
        check.due("without strength a glue still errs", 1, () -> weak.choices(1));
    }

    private void glueZeroIsNoError() {
        GluedWall wall = new GluedWall();
        wall.kind(1, 1, 0, 0);
        wall.kind(0, 0, 2, 1);
        wall.need(1);
        wall.lay(0, 0, 0);
        check.due("grows beside glue 0", 1, wall::nextPlace);
        check.due("place 7 is stuck", 0, () -> wall.choices(7));
        wall.lay(1, 1, 0);
        check.due("no errors", 0, wall::errors);
        check.due("glue 2 toward 1", 0, () -> wall.wouldHold(8, 0, 0));
    }

    /** Growing needs hold by neighbours, not a seed, and makes none. */
    private void withoutSeed() {
        GluedWall wall = fullGlue();
        wall.lay(0, 0, 0);
        wall.lay(1, 0, 0);
        wall.strength(1, 0);
        wall.takeOut(0);
        check.refused("no strength", wall, 8, 3, () -> wall.grow(1));
        wall.strength(1, 1);
        check.due("next", 0, wall::nextPlace);
        check.due("choices", 4, () -> wall.choices(0));
        check.due("choices far off", 0, () -> wall.choices(41));
        check.due("grows", 1, () -> wall.grow(1));
        check.due("no seed", Check.NONE_SUCH, wall::seed);
        check.due("nothing stands", 2, wall::fallen);
    }

    private void needOfMore() {
        GluedWall wall = fullGlue();
        wall.strength(1, 3);
        wall.need(6);
        wall.lay(8, 0, 0);
        check.due("stalled", Check.NONE_SUCH, wall::nextPlace);
        check.due("stalled", Check.NONE_SUCH, wall::nextBrick);
        wall.need(3);
        check.due("the need is enough", 1, wall::nextPlace);
    }

    private void choices() {
        GluedWall wall = fullGlue();
        wall.kind(1, 0, 1, 0);
        wall.kind(1, 2, 0, 0);
        wall.kind(2, 2, 2, 2);
        check.due("without bricks", 0, () -> wall.choices(17));
        wall.lay(17, 0, 0);
        check.due("turns count one by one", 4 + 2 + 1, () -> wall.choices(16));
        check.due("no neighbours", 0, () -> wall.choices(0));
        wall.need(2);
        check.due("too little hold", 0, () -> wall.choices(16));
        wall.strength(1, 2);
        check.due("enough hold", 7, () -> wall.choices(16));
        for (int number : FAR) {
            check.due("place " + number, Check.BOUNDS, () -> wall.choices(number));
        }
        check.due("a brick", Check.NONE_SUCH, () -> wall.choices(17));
        check.due("the next place has choices", 7, () -> wall.choices(wall.nextPlace()));
        wall.strength(2, 3);
        wall.lay(18, 0, 0);
        wall.lay(11, 0, 0);
        check.due("two neighbours without errors", 4 + 4 + 1, () -> wall.choices(10));
    }

    private void stuck() {
        GluedWall wall = fullGlue();
        check.due("no bricks", 0, wall::stuck);
        wall.lay(0, 0, 0);
        check.due("none", 0, wall::stuck);
        wall.need(2);
        check.due("two neighbours", 2, wall::stuck);
        wall.undo();
        wall.lay(1, 0, 0);
        wall.need(2);
        check.due("three neighbours", 3, wall::stuck);
        check.due("next", Check.NONE_SUCH, wall::nextPlace);
        wall.need(1);
        wall.lay(8, 0, 0);
        wall.need(2);
        check.due("7 can grow", 7, wall::nextPlace);
        check.due("the others are stuck", 3, wall::stuck);
    }

    private void growsTo() {
        GluedWall wall = fullGlue();
        check.due("no bricks", 0, wall::growsTo);
        wall.lay(20, 0, 0);
        check.due("all", 42, wall::growsTo);
        check.due("but nothing has grown", 1, () -> wall.account(1));
        check.due("laid", 1, () -> wall.account(3));
        check.due("changes", 3, () -> wall.account(8));
        wall.need(2);
        check.due("stalled", 1, wall::growsTo);
        wall.undo();
        wall.lay(19, 0, 0);
        wall.lay(12, 0, 0);
        wall.need(2);
        check.due("into the corner", 4, wall::growsTo);
        check.due("and so it grows", 1, () -> wall.grow(42));
    }
}
