/** The edges of the promises 1 to 7, and of what the terms tell of reasons and exceptions. */
public final class EdgesOfMakingTest {
    /** A need of 1, and a kind that holds by 1 on all sides. */
    private static final String EASY = """
            kind(1, 1, 1, 1) = 0
            need(1) = 2
            """;
    private static final String FULL = EASY + """
            lay(0, 0, 0) = 0
            grow(42) = 41
            """;

    private final Edges edges = new Edges();

    public static void main(String[] args) {
        EdgesOfMakingTest test = new EdgesOfMakingTest();
        test.reasons();
        test.reasonsOfBricks();
        test.firstReason();
        test.firstReasonOfText();
        test.detailsOfReasons();
        test.reasonIsKept();
        test.exceptions();
        test.firstException();
        test.newObject();
        test.kind();
        test.lay();
        test.layRefused();
        test.takeOut();
        test.grow();
        test.growRefused();
        test.strength();
        test.need();
        test.edges.end("Reasons", "Exceptions", "Promise 1", "Promise 2", "Promise 3", "Promise 4", "Promise 5", "Promise 6",
                "Promise 7");
    }

    private void reasons() {
        edges.edge("Reasons", "1, a number is out of range;", "in each method that names it", EASY + """
                lay(17, 0, 0) = 0
                kind(7, 0, 0, 0) refused 1 0 0
                lay(42, 0, 0) refused 1 0 0
                lay(18, 0, 4) refused 1 0 0
                takeOut(42) refused 1 0 0
                grow(43) refused 1 0 0
                strength(7, 2) refused 1 0 0
                strength(1, 4) refused 1 0 0
                need(7) refused 1 0 0
                """);
        edges.edge("Reasons", "2, there would be more kinds than there can be: how many there can be;", "the ninth", """
                8 times kind(0, 0, 0, 0)
                kind(0, 0, 0, 0) refused 2 8 0
                """);
        edges.edge("Reasons", "3, there is no such kind: its number;", "none told, one told, eight told", """
                lay(17, -1, 0) refused 3 -1 0
                lay(17, 0, 0) refused 3 0 0
                kind(0, 0, 0, 0) = 0
                lay(17, 1, 0) refused 3 1 0
                7 times kind(0, 0, 0, 0)
                lay(17, -1, 0) refused 3 -1 0
                lay(17, 8, 0) refused 3 8 0
                lay(17, MIN, 0) refused 3 -2147483648 0
                lay(17, MAX, 0) refused 3 2147483647 0
                """);
        edges.edge("Reasons", "4, the place has a brick: its kind;", "the kinds 0 and 7, not the one to be laid", """
                8 times kind(1, 1, 1, 1)
                lay(0, 7, 3) = 0
                lay(0, 0, 0) refused 4 7 0
                takeOut(0) = 7
                lay(41, 0, 3) = 0
                lay(41, 7, 0) refused 4 0 0
                """);
    }

    private void reasonsOfBricks() {
        edges.edge("Reasons", "5, the hold is too little: how much is missing;", "one to all six", """
                kind(1, 1, 1, 1) = 0
                lay(17, 0, 0) = 0
                lay(18, 0, 0) refused 5 1 0
                lay(19, 0, 0) refused 5 2 0
                need(6) = 2
                lay(18, 0, 0) refused 5 5 0
                lay(19, 0, 0) refused 5 6 0
                """);
        edges.edge("Reasons", "6, the place is free: the place;", "the first place and the last", """
                takeOut(0) refused 6 0 0
                takeOut(41) refused 6 41 0
                """);
        edges.edge("Reasons", "7, other bricks that stand would not stand any more: how many;",
                "one, and all others of a full wall",
                FULL + """
                takeOut(0) refused 7 41 0
                takeOut(41) = 0
                takeOut(40) = 0
                takeOut(33) = 0
                takeOut(27) refused 7 1 0
                """);
        edges.edge("Reasons", "8, the wall is stalled: how many places are stuck;", "none and four", """
                grow(1) refused 8 0 0
                kind(1, 1, 1, 1) = 0
                lay(17, 0, 0) = 0
                grow(42) refused 8 4 0
                """);
        edges.edge("Reasons", "9, it is so already.", "the need and the strength, at first and later", """
                need(2) refused 9 0 0
                strength(1|6, 1) refused 9 0 0
                need(6) = 2
                need(6) refused 9 0 0
                strength(6, 0) = 1
                strength(6, 0) refused 9 0 0
                need(2) = 6
                """);
    }

    private void firstReason() {
        String first = "Something is refused for the first that applies of the reasons that its method names, in the "
                + "order in which it names them:";
        edges.edge("Reasons", first, "kind: 1 before 2", """
                8 times kind(0, 0, 0, 0)
                kind(0, 0, 0, 7) refused 1 0 0
                kind(0, 0, 0, 6) refused 2 8 0
                """);
        edges.edge("Reasons", first, "lay: 1 before 3, 3 before 4, 4 before 5", """
                kind(0, 0, 0, 0) = 0
                lay(17, 0, 0) = 0
                lay(42, 1, 0) refused 1 0 0
                lay(17, 1, 4) refused 1 0 0
                lay(17, 1, 0) refused 3 1 0
                lay(18, 1, 0) refused 3 1 0
                lay(17, 0, 0) refused 4 0 0
                lay(18, 0, 0) refused 5 2 0
                """);
        edges.edge("Reasons", first, "takeOut: 1 before 6", "takeOut(42|-1) refused 1 0 0");
        edges.edge("Reasons", first, "grow: 1 before 8", "grow(0|43) refused 1 0 0");
        edges.edge("Reasons", first, "strength: 1 before 9", """
                strength(0, 0) refused 1 0 0
                strength(1, 1) refused 9 0 0
                """);
    }

    private void firstReasonOfText() {
        String first = "Something is refused for the first that applies of the reasons that its method names, in the "
                + "order in which it names them:";
        edges.edge("Reasons", first, "the same in texts", EASY + """
                lay(17, 0, 0) = 0
                text "l42:9" refused 1 0 0
                text "l17:9" refused 3 9 0
                text "l17:0" refused 4 0 0
                text "t42" refused 1 0 0
                text "g0" refused 1 0 0
                text "s00" refused 1 0 0
                text "n0" refused 1 0 0
                7 times kind(0, 0, 0, 0)
                text "k0007" refused 1 0 0
                text "k0006" refused 2 8 0
                """);
    }

    private void detailsOfReasons() {
        String zero = "If nothing else is told, the detail is 0.";
        edges.edge("Reasons", zero, "the reason 1 after one with a detail", """
                takeOut(41) refused 6 41 0
                takeOut(42) refused 1 0 0
                takeOut(41) refused 6 41 0
                kind(0, 7, 0, 0) refused 1 0 0
                """);
        edges.edge("Reasons", zero, "the reason 9 after one with a detail", """
                takeOut(41) refused 6 41 0
                need(2) refused 9 0 0
                takeOut(41) refused 6 41 0
                strength(3, 1) refused 9 0 0
                """);
    }

    private void reasonIsKept() {
        String kept = "The reason is kept with the index of the command of a text, from 0, or 0 for another call.";
        edges.edge("Reasons", kept, "the first and the last of twenty commands", """
                text "n2;n1;n2;n1;n2;n1;n2;n1;n2;n1;n2;n1;n2;n1;n2;n1;n2;n1;n2;n1" refused 9 0 0
                text "n1;n2;n1;n2;n1;n2;n1;n2;n1;n2;n1;n2;n1;n2;n1;n2;n1;n2;n1;n1" refused 9 0 19
                account(2) = 2
                """);
        edges.edge("Reasons", kept, "another call after a text, and a text after it", """
                text "n1;n2;n2" refused 9 0 2
                need(2) refused 9 0 0
                text "n1;n1" refused 9 0 1
                """);
        edges.edge("Reasons", kept, "not changed by what succeeds, by a fault, by undo and restore", """
                save() = 0
                text "n1;t41" refused 6 41 1
                need(3) = 2
                text "n2" = 1
                text "n" fault 1
                undo() = 1
                restore() = 0
                reason(0) = 6
                reason(1) = 41
                reason(2) = 1
                """);
    }

    private void exceptions() {
        edges.edge("Exceptions", "A call that throws an exception leaves the state unchanged, unless stated otherwise.",
                "each sort of call, on a wall that has much to lose", """
                text "k1212;k1111;n1;s23;l17:0;l24:1*" = 6
                save() = 2
                grow(3) = 3
                need(2) = 1
                text "n3;n" fault 4
                line(2)
                type "l1"
                kind(0, 0, 7, 0) refused 1 0 0
                lay(17, 0, 0) refused 4 0 0
                lay(41, 0, 0) refused 5 2 0
                takeOut(17) refused 7 4 0
                takeOut(41) refused 6 41 0
                grow(0) refused 1 0 0
                strength(2, 3) refused 9 0 0
                need(2) refused 9 0 0
                glueOf(2, 0, 0) throws IndexOutOfBoundsException
                strengthOf(7) throws IllegalArgumentException
                hold(41) throws NoSuchElementException
                line(6) throws IndexOutOfBoundsException
                character(7) throws IndexOutOfBoundsException
                account(10) throws IllegalArgumentException
                reason(3) throws IllegalArgumentException
                account(9) = 2
                """);
        edges.edge("Exceptions", "A call that throws an exception leaves the state unchanged,",
                "undo and restore of nothing", """
                undo() throws IllegalStateException
                restore() throws IllegalStateException
                """);
        edges.edge("Exceptions", "unless stated otherwise.", "commands empty the buffer", """
                type "x"
                commands() throws IllegalArgumentException
                account(9) = 0
                type "n2"
                commands() throws UnsupportedOperationException
                account(9) = 0
                """);
    }

    private void firstException() {
        String first = "If several conditions of a method are fulfilled, the one that is listed first determines the "
                + "exception.";
        edges.edge("Exceptions", first, "glueOf: the kind before the turn and the side", """
                glueOf(0, 4, 4) throws IndexOutOfBoundsException
                kind(0, 0, 0, 0) = 0
                glueOf(1, -1, -1) throws IndexOutOfBoundsException
                glueOf(0, 4, 4) throws IllegalArgumentException
                """);
        edges.edge("Exceptions", first, "wouldHold: the place and the kind before the turn, the turn before the brick", """
                kind(0, 0, 0, 0) = 0
                lay(17, 0, 0) = 0
                wouldHold(42, 0, 4) throws IndexOutOfBoundsException
                wouldHold(17, 1, 4) throws IndexOutOfBoundsException
                wouldHold(17, 1, 0) throws IndexOutOfBoundsException
                wouldHold(17, 0, 4) throws IllegalArgumentException
                wouldHold(17, 0, 3) throws NoSuchElementException
                """);
        edges.edge("Exceptions", first, "reason: the number before nothing refused", """
                reason(-1|3) throws IllegalArgumentException
                reason(0) throws NoSuchElementException
                """);
        edges.edge("Exceptions", first, "commands: a fault behind a command that would be refused", """
                text "n2;x" fault 3
                reason(0) throws NoSuchElementException
                """);
    }

    private void newObject() {
        String made = "Creates a wall without kinds and bricks.";
        edges.edge("Promise 1", made, "no kinds, no bricks, nothing counted", """
                account(0|1|3|4|5|6|7|8|9) = 0
                account(2) = 2
                inRow(0|1|2|3|4|5, false) = 0
                inRow(0|1|2|3|4|5|6, true) = 0
                line(0) shows .......
                line(5) shows .......
                """);
        edges.edge("Promise 1", made, "nothing to tell", """
                seed() throws NoSuchElementException
                glueOf(0, 0, 0) throws IndexOutOfBoundsException
                brickAt(0, false) throws NoSuchElementException
                weakest(0) throws NoSuchElementException
                meanHold() throws ArithmeticException
                standing() throws ArithmeticException
                reason(0|1|2) throws NoSuchElementException
                character(0) throws IndexOutOfBoundsException
                faultPosition() = -1
                """);
        edges.edge("Promise 1", made, "nothing falls, errs, sticks or grows", """
                fallen() = 0
                errors() = 0
                stuck() = 0
                growsTo() = 0
                choices(0|41) = 0
                nextPlace() throws NoSuchElementException
                nextBrick() throws NoSuchElementException
                """);
        edges.edge("Promise 1", made, "nothing to undo, restore or carry out", """
                undo() throws IllegalStateException
                restore() throws IllegalStateException
                commands() throws IllegalArgumentException
                """);
    }

    private void kind() {
        edges.edge("Promise 2", "Tells a kind of bricks.", "the glues by their sides", """
                kind(0, 1, 5, 6) = 0
                glueOf(0, 0, 0) = 0
                glueOf(0, 0, 1) = 1
                glueOf(0, 0, 2) = 5
                glueOf(0, 0, 3) = 6
                """);
        edges.edge("Promise 2", "Returns its number.", "0 to 7, also of kinds that are alike", """
                kind(6, 6, 6, 6) = 0
                kind(6, 6, 6, 6) = 1
                kind(0, 0, 0, 0) = 2
                4 times kind(1, 2, 3, 4)
                kind(6, 6, 6, 6) = 7
                account(0) = 8
                """);
        String refused = "Throws `UnsupportedOperationException` if it is refused for the reason 1 or 2; the reason is kept";
        edges.edge("Promise 2", refused, "each glue, out of range below and above", """
                kind(-1|7|MIN|MAX, 6, 6, 6) refused 1 0 0
                kind(6, -1|7|MIN|MAX, 6, 6) refused 1 0 0
                kind(6, 6, -1|7|MIN|MAX, 6) refused 1 0 0
                kind(6, 6, 6, -1|7|MIN|MAX) refused 1 0 0
                account(0|8) = 0
                kind(6, 6, 6, 6) = 0
                """);
        edges.edge("Promise 2", refused, "a ninth kind", """
                8 times kind(6, 6, 6, 6)
                kind(0, 0, 0, 0) refused 2 8 0
                account(0|8) = 8
                """);
    }

    private void lay() {
        edges.edge("Promise 3", "Lays a brick.", "at the first and the last place, the first and the last kind and turn", """
                8 times kind(1, 1, 1, 1)
                lay(0, 7, 3) = 0
                brickAt(0, false) = 7
                brickAt(0, true) = 3
                takeOut(0) = 7
                lay(41, 0, 0) = 0
                brickAt(41, false|true) = 0
                account(3) = 2
                """);
        edges.edge("Promise 3", "Lays a brick.", "into the last free place", FULL + """
                takeOut(17) = 0
                lay(17, 0, 0) = 4
                account(1) = 42
                lay(17, 0, 0) refused 4 0 0
                """);
        String hold = "Returns its hold, 0 for the seed.";
        edges.edge("Promise 3", hold, "just the need, and the most that there can be", EASY + """
                strength(1, 3) = 1
                need(3) = 1
                lay(16, 0, 0) = 0
                lay(9|23, 0, 0) = 3
                lay(10, 0, 0) = 3
                lay(24, 0, 0) = 3
                lay(11|25, 0, 0) = 3
                lay(18, 0, 0) = 6
                lay(17, 0, 0) = 12
                """);
        edges.edge("Promise 3", hold, "the seed among bricks that hold it", EASY + """
                lay(17, 0, 0) = 0
                lay(18, 0, 0) = 1
                strength(1, 0) = 1
                takeOut(17) = 0
                strength(1, 3) = 0
                lay(17, 0, 0) = 0
                hold(17) = 3
                """);
    }

    private void layRefused() {
        String range = "if it is refused for the reason 1, if there is no such place or turn,";
        edges.edge("Promise 3", range, "the place, below and above", EASY + """
                lay(-1|42|MIN|MAX, 0, 0) refused 1 0 0
                lay(0, 0, 0) = 0
                lay(-1|42|MIN|MAX, 0, 0) refused 1 0 0
                account(1|3) = 1
                """);
        edges.edge("Promise 3", range, "the turn, below and above", EASY + """
                lay(17, 0, -1|4|MIN|MAX) refused 1 0 0
                account(1|3) = 0
                """);
        edges.edge("Promise 3", "3, 4 or 5,", "the kind, below and above those that there are", EASY + """
                lay(17, -1|1, 0) throws UnsupportedOperationException
                lay(17, 1, 0) refused 3 1 0
                lay(17, MIN, 0) refused 3 -2147483648 0
                lay(17, MAX, 0) refused 3 2147483647 0
                lay(17, 0, 0) = 0
                """);
        edges.edge("Promise 3", "3, 4 or 5,", "a brick at the place, the seed and another", EASY + """
                lay(17, 0, 0) = 0
                lay(18, 0, 0) = 1
                lay(17|18, 0, 0) refused 4 0 0
                """);
        String seed = "5, if it would not be the seed; the reason is kept";
        edges.edge("Promise 3", seed, "no hold as the seed and as another", """
                kind(0, 0, 0, 0) = 0
                lay(17, 0, 0) = 0
                lay(18|41, 0, 0) refused 5 2 0
                takeOut(17) = 0
                lay(18, 0, 0) = 0
                """);
        edges.edge("Promise 3", seed, "one less than the need", """
                kind(1, 1, 1, 1) = 0
                strength(1, 3) = 1
                need(4) = 2
                lay(17, 0, 0) = 0
                lay(18, 0, 0) refused 5 1 0
                need(3) = 4
                lay(18, 0, 0) = 3
                """);
    }

    private void takeOut() {
        edges.edge("Promise 4", "Takes a brick out.", "of a full wall, the first and the last place", EASY + """
                lay(17, 0, 0) = 0
                grow(42) = 41
                takeOut(0) = 0
                takeOut(41) = 0
                account(1) = 40
                account(5) = 2
                brickAt(0|41, false) throws NoSuchElementException
                """);
        edges.edge("Promise 4", "If it is the seed, there is none then.",
                "the only brick, and one beside bricks that have fallen", EASY + """
                lay(0, 0, 0) = 0
                takeOut(0) = 0
                seed() throws NoSuchElementException
                lay(41, 0, 0) = 0
                lay(40, 0, 0) = 1
                takeOut(40) = 0
                seed() = 41
                lay(40, 0, 0) = 1
                strength(1, 0) = 1
                takeOut(41) = 0
                seed() throws NoSuchElementException
                account(1) = 1
                """);
        edges.edge("Promise 4", "Returns its kind.", "the first and the last", """
                7 times kind(1, 1, 1, 1)
                kind(1, 1, 1, 1) = 7
                need(1) = 2
                lay(17, 0, 0) = 0
                lay(18, 7, 2) = 1
                takeOut(18) = 7
                takeOut(17) = 0
                """);
        String refused = "if it is refused for the reason 1, if there is no such place, 6 or 7; the reason is kept";
        edges.edge("Promise 4", refused, "the place, below and above", FULL + """
                takeOut(-1|42|MIN|MAX) refused 1 0 0
                account(1) = 42
                """);
        edges.edge("Promise 4", refused, "a free place: the first, the last, and one just freed", EASY + """
                takeOut(0) refused 6 0 0
                takeOut(41) refused 6 41 0
                lay(17, 0, 0) = 0
                takeOut(17) = 0
                takeOut(17) refused 6 17 0
                """);
        edges.edge("Promise 4", refused, "one other falls, none falls, and one that had fallen does not count", EASY + """
                lay(17, 0, 0) = 0
                lay(18, 0, 0) = 1
                lay(19, 0, 0) = 1
                takeOut(17) refused 7 2 0
                takeOut(18) refused 7 1 0
                takeOut(19) = 0
                takeOut(17) refused 7 1 0
                strength(1, 0) = 1
                takeOut(17) = 0
                """);
    }

    private void grow() {
        String steps = "Lets bricks grow, step by step, and stops where the wall is stalled.";
        edges.edge("Promise 5", steps, "as many as are asked, then all that can", EASY + """
                lay(0, 0, 0) = 0
                grow(1) = 1
                grow(2) = 2
                account(1) = 4
                grow(42) = 38
                account(1) = 42
                """);
        edges.edge("Promise 5", steps, "it stops before the wall is full", """
                kind(0, 1, 0, 0) = 0
                need(1) = 2
                lay(17, 0, 0) = 0
                grow(42) = 1
                brickAt(18, true) = 2
                grow(42) refused 8 6 0
                """);
        edges.edge("Promise 5", steps, "a growing is one change", EASY + """
                lay(0, 0, 0) = 0
                grow(41) = 41
                account(8) = 4
                undo() = 3
                account(1) = 1
                """);
        edges.edge("Promise 5", "`bricks`: how many, 1 to 42", "the least and the most", EASY + """
                lay(17, 0, 0) = 0
                grow(1) = 1
                grow(42) = 40
                """);
        edges.edge("Promise 5", "`bricks`: how many, 1 to 42", "less and more", EASY + """
                lay(17, 0, 0) = 0
                grow(0|43|-1|MIN|MAX) refused 1 0 0
                account(1) = 1
                """);
        edges.edge("Promise 5", "Returns how many are laid.",
                "just as many as there are places, one less, one more", EASY + """
                lay(17, 0, 0) = 0
                grow(41) = 41
                undo() = 3
                grow(40) = 40
                undo() = 3
                grow(42) = 41
                account(3) = 42
                account(4) = 41
                """);
    }

    private void growRefused() {
        String refused = "if it is refused for the reason 1, or 8, if it is stalled at once; the reason is kept";
        edges.edge("Promise 5", refused, "no kinds, no bricks, a full wall", """
                grow(1|42) refused 8 0 0
                kind(1, 1, 1, 1) = 0
                grow(1|42) refused 8 0 0
                need(1) = 2
                lay(17, 0, 0) = 0
                grow(42) = 41
                grow(1|42) refused 8 0 0
                """);
        edges.edge("Promise 5", refused, "stalled after a step is not stalled at once", """
                kind(1, 0, 0, 0) = 0
                need(1) = 2
                lay(17, 0, 0) = 0
                grow(2) = 1
                grow(1) refused 8 6 0
                """);
    }

    private void strength() {
        String stay = "Sets the strength of a glue; bricks that are laid stay, whether they stand or not.";
        edges.edge("Promise 6", stay, "to nothing, and all but the seed fall", FULL + """
                strength(1, 0) = 1
                account(1) = 42
                fallen() = 41
                strength(1, 3) = 0
                fallen() = 0
                """);
        edges.edge("Promise 6", stay, "only of that glue", """
                strength(1, 0) = 1
                strength(6, 3) = 1
                strengthOf(2|3|4|5) = 1
                strengthOf(1) = 0
                strengthOf(6) = 3
                """);
        edges.edge("Promise 6", "`glue`: the glue, 1 to 6", "the first and the last, and beside them", """
                strength(1|6, 2) = 1
                strength(0|7|-1|MIN|MAX, 2) refused 1 0 0
                strength(0, 0) refused 1 0 0
                """);
        edges.edge("Promise 6", "Returns the strength before.", "0 to 3", """
                strength(6, 0) = 1
                strength(6, 3) = 0
                strength(6, 2) = 3
                strength(6, 1) = 2
                """);
        String refused = "if it is refused for the reason 1 or 9; the reason is kept";
        edges.edge("Promise 6", refused, "less and more than a strength can be", """
                strength(1|6, -1|4|MIN|MAX) refused 1 0 0
                strength(MIN|MAX, MIN|MAX) refused 1 0 0
                strengthOf(1|6) = 1
                """);
        edges.edge("Promise 6", refused, "so already: each strength", """
                strength(1|2|3|4|5|6, 1) refused 9 0 0
                strength(1, 0) = 1
                strength(1, 0) refused 9 0 0
                strength(1, 3) = 0
                strength(1, 3) refused 9 0 0
                account(8) = 2
                """);
    }

    private void need() {
        String stay = "Sets the need; bricks that are laid stay.";
        edges.edge("Promise 7", stay, "to the most, on a full wall", FULL + """
                need(6) = 1
                account(1) = 42
                fallen() = 0
                account(2) = 6
                """);
        edges.edge("Promise 7", "Returns the need before.", "at first, the least and the most", """
                need(1) = 2
                need(6) = 1
                need(2) = 6
                """);
        String refused = "if it is refused for the reason 1 or 9; the reason is kept";
        edges.edge("Promise 7", refused, "less and more than a need can be", """
                need(0|7|-1|MIN|MAX) refused 1 0 0
                account(2) = 2
                """);
        edges.edge("Promise 7", refused, "so already: at first, the least and the most", """
                need(2) refused 9 0 0
                need(1) = 2
                need(1) refused 9 0 0
                need(6) = 1
                need(6) refused 9 0 0
                account(8) = 2
                """);
    }
}
