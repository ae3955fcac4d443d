/** Promises 3, 4 and 10 to 17. */
public final class LayingTest {
    private static final int[] FAR = {Integer.MIN_VALUE, -7, -1, 42, 43, Integer.MAX_VALUE};

    private final Check check = new Check();

    public static void main(String[] args) {
        LayingTest test = new LayingTest();
        test.lay();
        test.layRefused();
        test.layOnAllSides();
        test.layAtEdges();
        test.seedWithoutHold();
        test.takeOut();
        test.takeOutRefused();
        test.seedGoes();
        test.brickAt();
        test.holds();
        test.wouldHold();
        test.standing();
        test.falls();
        test.wrongPlaces();
        test.check.end();
    }

    /** A wall with need 1 and a kind that holds everywhere, 0, and one that never does, 1. */
    private static GluedWall easyWall() {
        GluedWall wall = new GluedWall();
        wall.kind(1, 1, 1, 1);
        wall.kind(0, 0, 0, 0);
        wall.need(1);
        return wall;
    }

    private void lay() {
        GluedWall wall = easyWall();
        check.due("the seed", 0, () -> wall.lay(10, 0, 3));
        check.due("seed", 10, wall::seed);
        check.due("beside it", 1, () -> wall.lay(11, 0, 0));
        check.due("below it", 1, () -> wall.lay(17, 0, 0));
        check.due("into the corner", 2, () -> wall.lay(18, 0, 0));
        check.due("seed still", 10, wall::seed);
        check.due("laid", 4, () -> wall.account(3));
        check.due("grown", 0, () -> wall.account(4));
        check.due("changes", 7, () -> wall.account(8));
    }

    private void layRefused() {
        GluedWall wall = easyWall();
        wall.lay(3, 0, 0);
        for (int number : FAR) {
            check.refused("place " + number, wall, 1, 0, () -> wall.lay(number, 0, 0));
            check.refused("turn " + number, wall, 1, 0, () -> wall.lay(4, 0, number));
            check.refused("kind " + number, wall, 3, number, () -> wall.lay(4, number, 0));
        }
        check.refused("turn 4", wall, 1, 0, () -> wall.lay(4, 0, 4));
        check.refused("turn before kind", wall, 1, 0, () -> wall.lay(4, 9, 4));
        check.refused("kind 2", wall, 3, 2, () -> wall.lay(4, 2, 0));
        check.refused("kind before place", wall, 3, 2, () -> wall.lay(3, 2, 0));
        check.refused("the place has a brick", wall, 4, 0, () -> wall.lay(3, 1, 0));
        check.refused("no hold", wall, 5, 1, () -> wall.lay(4, 1, 0));
        check.refused("no neighbours", wall, 5, 1, () -> wall.lay(40, 0, 0));
        wall.need(6);
        check.refused("too little hold", wall, 5, 5, () -> wall.lay(4, 0, 0));
        check.due("bricks", 1, () -> wall.account(1));
        check.due("laid", 1, () -> wall.account(3));
        GluedWall other = easyWall();
        other.lay(0, 1, 2);
        check.refused("brick of the kind 1", other, 4, 1, () -> other.lay(0, 0, 0));
        check.refused("edge: hold is just missing", other, 5, 1, () -> other.lay(1, 0, 0));
    }

    /** Each side has another glue, so that a side that is mixed up shows. */
    private void layOnAllSides() {
        int[] places = {10, 18, 24, 16};
        for (int side = 0; side < 4; side++) {
            for (int turn = 0; turn < 4; turn++) {
                GluedWall wall = new GluedWall();
                wall.kind(1, 2, 3, 4);
                wall.need(1);
                wall.lay(17, 0, turn);
                int toward = 1 + (side - turn + 4) % 4;
                for (int other = 0; other < 4; other++) {
                    int back = 1 + ((side + 2) % 4 - other + 4) % 4;
                    int place = places[side];
                    int quarters = other;
                    String what = "side " + side + " turn " + turn + " other " + other;
                    check.due(what, toward == back ? 1 : 0, () -> wall.wouldHold(place, 0, quarters));
                    check.due(what + " laid", toward == back ? "1" : Check.REFUSED, () -> {
                        int hold = wall.lay(place, 0, quarters);
                        wall.undo();
                        return hold;
                    });
                }
            }
        }
    }

    /** The last place of a row and the first one of the next are no neighbours. */
    private void layAtEdges() {
        GluedWall wall = easyWall();
        wall.lay(6, 0, 0);
        check.due("around the edge", 0, () -> wall.wouldHold(7, 0, 0));
        check.due("below the corner", 1, () -> wall.wouldHold(13, 0, 0));
        wall.lay(13, 0, 0);
        wall.lay(20, 0, 0);
        check.due("around, in the middle", 0, () -> wall.wouldHold(14, 0, 0));
        check.due("from above to below", 0, () -> wall.wouldHold(41, 0, 0));
        check.due("bricks", 3, () -> wall.account(1));
        GluedWall low = easyWall();
        low.lay(35, 0, 0);
        check.due("before the row", 0, () -> low.wouldHold(34, 0, 0));
        check.due("after", 1, () -> low.wouldHold(36, 0, 0));
        check.due("above", 1, () -> low.wouldHold(28, 0, 0));
    }

    private void seedWithoutHold() {
        GluedWall wall = easyWall();
        wall.lay(0, 0, 0);
        wall.lay(1, 0, 0);
        wall.strength(1, 0);
        check.due("the seed goes", 0, () -> wall.takeOut(0));
        check.due("none then", Check.NONE_SUCH, wall::seed);
        wall.strength(1, 3);
        check.due("beside a brick, its hold is told as 0", 0, () -> wall.lay(2, 0, 0));
        check.due("it is the seed", 2, wall::seed);
        check.due("it has hold", 3, () -> wall.hold(2));
        check.due("the other stands", true, () -> wall.stands(1));
        wall.takeOut(1);
        wall.takeOut(2);
        check.due("anywhere, of any kind", 0, () -> wall.lay(41, 1, 3));
        check.due("it is the seed again", 41, wall::seed);
    }

    private void takeOut() {
        GluedWall wall = easyWall();
        wall.kind(1, 1, 1, 1);
        wall.lay(0, 0, 0);
        wall.lay(1, 2, 0);
        wall.lay(8, 0, 0);
        check.due("its kind", 0, () -> wall.takeOut(8));
        check.due("its kind", 2, () -> wall.takeOut(1));
        check.due("taken", 2, () -> wall.account(5));
        check.due("laid", 3, () -> wall.account(3));
        check.due("bricks", 1, () -> wall.account(1));
        check.due("the seed, alone", 0, () -> wall.takeOut(0));
        check.due("no seed", Check.NONE_SUCH, wall::seed);
        check.due("taken", 3, () -> wall.account(5));
    }

    private void takeOutRefused() {
        GluedWall wall = easyWall();
        for (int number : FAR) {
            check.refused("place " + number, wall, 1, 0, () -> wall.takeOut(number));
        }
        check.refused("free", wall, 6, 41, () -> wall.takeOut(41));
        check.refused("free", wall, 6, 0, () -> wall.takeOut(0));
        wall.lay(0, 0, 0);
        wall.lay(1, 0, 0);
        wall.lay(2, 0, 0);
        wall.lay(9, 0, 0);
        check.refused("the seed", wall, 7, 3, () -> wall.takeOut(0));
        check.refused("between", wall, 7, 2, () -> wall.takeOut(1));
        check.refused("between", wall, 7, 1, () -> wall.takeOut(2));
        check.due("bricks", 4, () -> wall.account(1));
        check.due("taken", 0, () -> wall.account(5));
        wall.lay(8, 0, 0);
        check.due("a ring holds", 0, () -> wall.takeOut(2));
    }

    /** A seed whose neighbours do not stand by it can be taken out; then nothing stands. */
    private void seedGoes() {
        GluedWall wall = easyWall();
        wall.lay(0, 0, 0);
        wall.lay(1, 0, 0);
        wall.lay(2, 0, 0);
        wall.strength(1, 0);
        check.due("fallen", 2, wall::fallen);
        check.due("the seed goes", 0, () -> wall.takeOut(0));
        wall.strength(1, 1);
        check.due("nothing stands", 2, wall::fallen);
        check.due("nothing falls", 0, () -> wall.falls(1));
        check.due("a fallen one goes", 0, () -> wall.takeOut(1));
        check.due("fallen", 1, wall::fallen);
    }

    private void brickAt() {
        GluedWall wall = easyWall();
        wall.lay(0, 1, 2);
        check.due("kind", 1, () -> wall.brickAt(0, false));
        check.due("turn", 2, () -> wall.brickAt(0, true));
        check.due("free", Check.NONE_SUCH, () -> wall.brickAt(1, false));
        check.due("free", Check.NONE_SUCH, () -> wall.brickAt(41, true));
    }

    private void holds() {
        GluedWall wall = new GluedWall();
        wall.kind(1, 2, 3, 2);
        wall.kind(3, 2, 1, 2);
        wall.need(1);
        wall.strength(2, 3);
        wall.strength(3, 2);
        wall.lay(17, 0, 0);
        check.due("alone", 0, () -> wall.hold(17));
        check.due("alone again", 0, () -> wall.holdAgain(17));
        check.due("glue 2", 3, () -> wall.lay(18, 0, 0));
        check.due("glue 3", 2, () -> wall.lay(24, 1, 0));
        check.due("glue 1", 1, () -> wall.lay(10, 1, 0));
        check.due("two sides", 5, () -> wall.lay(25, 1, 0));
        int[][] due = {{10, 1}, {17, 6}, {18, 5}, {24, 5}, {25, 5}};
        for (int[] pair : due) {
            check.due("hold " + pair[0], pair[1], () -> wall.hold(pair[0]));
            check.due("holdAgain " + pair[0], pair[1], () -> wall.holdAgain(pair[0]));
        }
        check.due("all holds", 22, () -> wall.account(6));
        wall.strength(2, 0);
        check.due("weaker", 3, () -> wall.hold(17));
        check.due("weaker again", 3, () -> wall.holdAgain(17));
    }

    private void wouldHold() {
        GluedWall wall = easyWall();
        wall.strength(1, 3);
        check.due("no neighbours", 0, () -> wall.wouldHold(8, 0, 0));
        wall.lay(1, 0, 0);
        wall.lay(2, 0, 0);
        wall.lay(9, 0, 0);
        check.due("two neighbours", 6, () -> wall.wouldHold(8, 0, 0));
        check.due("no glue", 0, () -> wall.wouldHold(8, 1, 0));
        for (int number : FAR) {
            check.due("place " + number, Check.BOUNDS, () -> wall.wouldHold(number, 0, 0));
            check.due("kind " + number, Check.BOUNDS, () -> wall.wouldHold(8, number, 0));
            check.due("turn " + number, Check.ARGUMENT, () -> wall.wouldHold(8, 0, number));
            check.due("kind and turn " + number, Check.BOUNDS, () -> wall.wouldHold(1, number, number));
            check.due("turn " + number + " and brick", Check.ARGUMENT, () -> wall.wouldHold(1, 0, number));
        }
        check.due("kind 2", Check.BOUNDS, () -> wall.wouldHold(8, 2, 0));
        check.due("turn 4", Check.ARGUMENT, () -> wall.wouldHold(8, 0, 4));
        check.due("brick", Check.NONE_SUCH, () -> wall.wouldHold(1, 0, 0));
    }

    private void standing() {
        GluedWall wall = new GluedWall();
        wall.kind(1, 2, 1, 2);
        wall.need(1);
        check.due("nothing has fallen", 0, wall::fallen);
        wall.lay(0, 0, 0);
        wall.lay(1, 0, 0);
        wall.lay(8, 0, 0);
        wall.lay(7, 0, 0);
        check.due("all stand", 0, wall::fallen);
        wall.strength(2, 0);
        check.due("beside", 2, wall::fallen);
        check.due("the seed", true, () -> wall.stands(0));
        check.due("right", false, () -> wall.stands(1));
        check.due("below", true, () -> wall.stands(7));
        check.due("diagonal", false, () -> wall.stands(8));
        wall.strength(1, 0);
        check.due("all but the seed", 3, wall::fallen);
        check.due("the seed", true, () -> wall.stands(0));
        check.due("below", false, () -> wall.stands(7));
    }

    private void falls() {
        GluedWall wall = easyWall();
        for (int place : new int[] {14, 15, 16, 9, 2, 23}) {
            wall.lay(place, 0, 0);
        }
        int[][] due = {{14, 5}, {15, 4}, {16, 3}, {9, 1}, {2, 0}, {23, 0}};
        for (int[] pair : due) {
            check.due("falls " + pair[0], pair[1], () -> wall.falls(pair[0]));
        }
        wall.strength(1, 0);
        check.due("those that do not stand do not count", 0, () -> wall.falls(14));
        check.due("nor does one that does not stand", 0, () -> wall.falls(15));
    }

    private void wrongPlaces() {
        GluedWall wall = easyWall();
        wall.lay(20, 0, 0);
        for (int number : FAR) {
            askPlace(wall, number, Check.BOUNDS);
        }
        for (int place : new int[] {0, 19, 41}) {
            askPlace(wall, place, Check.NONE_SUCH);
        }
    }

    private void askPlace(GluedWall wall, int place, String due) {
        check.due("brickAt " + place, due, () -> wall.brickAt(place, false));
        check.due("hold " + place, due, () -> wall.hold(place));
        check.due("holdAgain " + place, due, () -> wall.holdAgain(place));
        check.due("stands " + place, due, () -> wall.stands(place));
        check.due("falls " + place, due, () -> wall.falls(place));
        check.due("errorsAt " + place, due, () -> wall.errorsAt(place));
    }
}
