/** The edges of the promises 8 to 26, which change nothing. */
public final class EdgesOfAskingTest {
    /** A need of 1, and a kind that holds by 1 on all sides. */
    private static final String EASY = """
            kind(1, 1, 1, 1) = 0
            need(1) = 2
            """;
    private static final String FULL = EASY + """
            lay(0, 0, 0) = 0
            grow(42) = 41
            """;
    /** A brick with a brick on each of its sides; the seed is in the middle. */
    private static final String CROSS = EASY + """
            lay(17, 0, 0) = 0
            lay(10|16|18|24, 0, 0) = 1
            """;
    private static final String NO_PLACE = "Throws `IndexOutOfBoundsException` if there is no such place";
    private static final String FREE = "Throws `NoSuchElementException` if the place is free";

    private final Edges edges = new Edges();

    public static void main(String[] args) {
        EdgesOfAskingTest test = new EdgesOfAskingTest();
        test.glueOf();
        test.strengthOf();
        test.brickAt();
        test.seed();
        test.hold();
        test.holdAgain();
        test.wouldHold();
        test.wouldHoldRefused();
        test.stands();
        test.fallen();
        test.falls();
        test.errors();
        test.errorsAt();
        test.nextPlace();
        test.nextBrick();
        test.choices();
        test.stuck();
        test.growsTo();
        test.inRow();
        test.weakest();
        test.endOfPromises();
    }

    private void endOfPromises() {
        String[] headings = new String[26 - 8 + 1];
        for (int promise = 8; promise <= 26; promise++) {
            headings[promise - 8] = "Promise " + promise;
        }
        edges.end(headings);
    }

    /** No such place, and free ones: the same for all questions of a brick. */
    private void placesOf(String heading, String question) {
        edges.edge(heading, NO_PLACE, "below and above, on an empty wall", question.formatted("-1|42|MIN|MAX")
                + " throws IndexOutOfBoundsException");
        edges.edge(heading, NO_PLACE, "below and above, on a full wall", FULL + question.formatted("-1|42|MIN|MAX")
                + " throws IndexOutOfBoundsException\n" + question.formatted("0|41"));
        edges.edge(heading, FREE, "the first and the last place, on an empty wall", question.formatted("0|41")
                + " throws NoSuchElementException");
        edges.edge(heading, FREE, "beside the only brick, and where one was taken out", EASY + """
                lay(17, 0, 0) = 0
                lay(18, 0, 0) = 1
                takeOut(18) = 0
                """ + question.formatted("17") + "\n" + question.formatted("16|18|10|24")
                + " throws NoSuchElementException");
    }

    private void glueOf() {
        String glue = "Returns the glue of a side of a kind that is turned.";
        edges.edge("Promise 8", glue, "the first and the last kind, turn and side", """
                kind(1, 2, 3, 4) = 0
                6 times kind(0, 0, 0, 0)
                kind(3, 4, 5, 6) = 7
                glueOf(0, 0, 0) = 1
                glueOf(0, 0, 3) = 4
                glueOf(7, 0, 0) = 3
                glueOf(7, 0, 3) = 6
                glueOf(7, 3, 0) = 4
                glueOf(7, 3, 3) = 3
                """);
        edges.edge("Promise 8", "Returns the glue.", "the least and the most", """
                kind(0, 6, 0, 6) = 0
                glueOf(0, 0, 0) = 0
                glueOf(0, 0, 1) = 6
                glueOf(0, 1, 0) = 6
                """);
        String noKind = "Throws `IndexOutOfBoundsException` if there is no such kind";
        edges.edge("Promise 8", noKind, "none told", "glueOf(0|-1|7|MIN|MAX, 0, 0) throws IndexOutOfBoundsException");
        edges.edge("Promise 8", noKind, "one told", """
                kind(1, 2, 3, 4) = 0
                glueOf(0, 0, 0) = 1
                glueOf(1|-1|MIN|MAX, 0, 0) throws IndexOutOfBoundsException
                """);
        edges.edge("Promise 8", noKind, "eight told", """
                8 times kind(1, 2, 3, 4)
                glueOf(7, 0, 0) = 1
                glueOf(8|-1|MIN|MAX, 0, 0) throws IndexOutOfBoundsException
                """);
        String noTurn = "Throws `IllegalArgumentException` if the turn or the side is not from 0 to 3";
        edges.edge("Promise 8", noTurn, "the turn, below and above", """
                kind(1, 2, 3, 4) = 0
                glueOf(0, 3, 0) = 2
                glueOf(0, -1|4|MIN|MAX, 0) throws IllegalArgumentException
                """);
        edges.edge("Promise 8", noTurn, "the side, below and above", """
                kind(1, 2, 3, 4) = 0
                glueOf(0, 0, 3) = 4
                glueOf(0, 0, -1|4|MIN|MAX) throws IllegalArgumentException
                """);
    }

    private void strengthOf() {
        String strength = "Returns the strength of a glue.";
        edges.edge("Promise 9", strength, "the first and the last glue", """
                strength(1, 3) = 1
                strength(6, 0) = 1
                strengthOf(1) = 3
                strengthOf(2|5) = 1
                strengthOf(6) = 0
                """);
        edges.edge("Promise 9", "Returns the strength.", "of the glue 0", "strengthOf(0) = 0");
        edges.edge("Promise 9", "Throws `IllegalArgumentException` if it is not from 0 to 6", "below and above",
                "strengthOf(-1|7|MIN|MAX) throws IllegalArgumentException");
    }

    private void brickAt() {
        String brick = "Returns the kind of a brick, or its turn.";
        edges.edge("Promise 10", brick, "the first kind turned thrice, at the first place", """
                kind(1, 1, 1, 1) = 0
                lay(0, 0, 3) = 0
                brickAt(0, false) = 0
                brickAt(0, true) = 3
                """);
        edges.edge("Promise 10", "Returns the number.", "the last kind not turned, at the last place", """
                8 times kind(1, 1, 1, 1)
                lay(41, 7, 0) = 0
                brickAt(41, false) = 7
                brickAt(41, true) = 0
                """);
        placesOf("Promise 10", "brickAt(%s, false)");
        placesOf("Promise 10", "brickAt(%s, true)");
    }

    private void seed() {
        edges.edge("Promise 11", "Returns the place of the seed.", "the first place", EASY + """
                lay(0, 0, 0) = 0
                lay(1, 0, 0) = 1
                seed() = 0
                """);
        edges.edge("Promise 11", "Returns the place.", "the last place, below others", EASY + """
                lay(41, 0, 0) = 0
                grow(42) = 41
                seed() = 41
                """);
        String none = "Throws `NoSuchElementException` if there is none";
        edges.edge("Promise 11", none, "at first", "seed() throws NoSuchElementException");
        edges.edge("Promise 11", none, "when it is taken out, with and without other bricks", EASY + """
                lay(17, 0, 0) = 0
                takeOut(17) = 0
                seed() throws NoSuchElementException
                lay(17, 0, 0) = 0
                lay(18, 0, 0) = 1
                strength(1, 0) = 1
                takeOut(17) = 0
                seed() throws NoSuchElementException
                """);
        edges.edge("Promise 11", none, "when it is undone", EASY + """
                lay(17, 0, 0) = 0
                undo() = 2
                seed() throws NoSuchElementException
                """);
    }

    private void hold() {
        edges.edge("Promise 12", "Returns the hold of a brick: side by side.", "none, one side and four", CROSS + """
                strength(1, 3) = 1
                hold(17) = 12
                hold(10|16|18|24) = 3
                strength(1, 0) = 3
                hold(17|10) = 0
                """);
        edges.edge("Promise 12", "Returns the hold.", "a brick alone, in the first and in the last place", """
                kind(1, 1, 1, 1) = 0
                lay(0, 0, 0) = 0
                hold(0) = 0
                takeOut(0) = 0
                lay(41, 0, 0) = 0
                hold(41) = 0
                """);
        edges.edge("Promise 12", "Returns the hold.", "on a full wall: in a corner, at an edge, in the middle", FULL + """
                hold(0|6|35|41) = 2
                hold(3|38|14|20) = 3
                hold(8|17|33) = 4
                """);
        placesOf("Promise 12", "hold(%s)");
    }

    private void holdAgain() {
        String again = "Returns the same by a second way: what all bricks have of hold together, less what they "
                + "would have without this one, divided by 2.";
        edges.edge("Promise 13", again, "none, one side and four", CROSS + """
                strength(1, 3) = 1
                holdAgain(17) = 12
                holdAgain(10|16|18|24) = 3
                strength(1, 0) = 3
                holdAgain(17|10) = 0
                """);
        edges.edge("Promise 13", again, "holds that are not its own do not count", FULL + """
                holdAgain(0|6|35|41) = 2
                holdAgain(3|38|14|20) = 3
                holdAgain(8|17|33) = 4
                """);
        edges.edge("Promise 13", "Returns the hold.", "a brick alone, in the first and in the last place", """
                kind(1, 1, 1, 1) = 0
                lay(0, 0, 0) = 0
                holdAgain(0) = 0
                takeOut(0) = 0
                lay(41, 0, 0) = 0
                holdAgain(41) = 0
                """);
        placesOf("Promise 13", "holdAgain(%s)");
    }

    private void wouldHold() {
        String would = "Returns the hold that a brick would have at a free place.";
        edges.edge("Promise 14", would, "no neighbours, one and four, with the most strength", EASY + """
                strength(1, 3) = 1
                lay(16, 0, 0) = 0
                lay(9|23, 0, 0) = 3
                lay(10|24, 0, 0) = 3
                lay(11|25, 0, 0) = 3
                lay(18, 0, 0) = 6
                wouldHold(17, 0, 0) = 12
                wouldHold(19, 0, 0) = 3
                wouldHold(41, 0, 0) = 0
                """);
        edges.edge("Promise 14", would, "the need and errors do not matter", """
                kind(1, 1, 1, 1) = 0
                kind(2, 2, 2, 2) = 1
                need(6) = 2
                wouldHold(0|41, 0|1, 0|3) = 0
                lay(17, 0, 0) = 0
                wouldHold(18, 0, 0|3) = 1
                wouldHold(18, 1, 0|3) = 0
                """);
        edges.edge("Promise 14", "Returns the hold.", "the first and the last kind and turn", """
                kind(1, 0, 0, 0) = 0
                6 times kind(0, 0, 0, 0)
                kind(0, 0, 1, 0) = 7
                lay(0, 0, 1) = 0
                wouldHold(1, 0, 3) = 1
                wouldHold(1, 0, 0) = 0
                wouldHold(1, 7, 1) = 1
                wouldHold(1, 7, 3) = 0
                """);
    }

    private void wouldHoldRefused() {
        String none = "Throws `IndexOutOfBoundsException` if there is no such place or kind";
        edges.edge("Promise 14", none, "the place, below and above", EASY + """
                wouldHold(0|41, 0, 0) = 0
                wouldHold(-1|42|MIN|MAX, 0, 0) throws IndexOutOfBoundsException
                """);
        edges.edge("Promise 14", none, "the kind, below and above: none, one and eight told", """
                wouldHold(0, 0|-1|7|MIN|MAX, 0) throws IndexOutOfBoundsException
                kind(1, 1, 1, 1) = 0
                wouldHold(0, 0, 0) = 0
                wouldHold(0, -1|1|MIN|MAX, 0) throws IndexOutOfBoundsException
                7 times kind(1, 1, 1, 1)
                wouldHold(0, 7, 0) = 0
                wouldHold(0, -1|8|MIN|MAX, 0) throws IndexOutOfBoundsException
                """);
        edges.edge("Promise 14", "Throws `IllegalArgumentException` if the turn is not from 0 to 3",
                "below and above", EASY + """
                wouldHold(0, 0, 0|3) = 0
                wouldHold(0, 0, -1|4|MIN|MAX) throws IllegalArgumentException
                """);
        edges.edge("Promise 14", "Throws `NoSuchElementException` if the place has a brick",
                "the first place and the last", FULL + """
                wouldHold(0|41, 0, 0|3) throws NoSuchElementException
                takeOut(41) = 0
                wouldHold(41, 0, 0|3) = 2
                """);
    }

    private void stands() {
        edges.edge("Promise 15", "Returns whether a brick stands.",
                "the seed without any hold, and the first and the last place", """
                kind(0, 0, 0, 0) = 0
                lay(0, 0, 0) = 0
                stands(0) = true
                takeOut(0) = 0
                lay(41, 0, 0) = 0
                stands(41) = true
                """);
        edges.edge("Promise 15", "Returns whether it does.", "a strength of 1, of 0, and no seed", CROSS + """
                stands(17|10|16|18|24) = true
                strength(1, 0) = 1
                stands(17) = true
                stands(10|16|18|24) = false
                takeOut(17) = 0
                strength(1, 3) = 0
                stands(10|16|18|24) = false
                """);
        placesOf("Promise 15", "stands(%s)");
    }

    private void fallen() {
        edges.edge("Promise 16", "Returns how many bricks do not stand.", "no bricks, the seed alone", """
                fallen() = 0
                kind(0, 0, 0, 0) = 0
                lay(17, 0, 0) = 0
                fallen() = 0
                """);
        edges.edge("Promise 16", "Returns how many.", "none, all but the seed, and all of a wall", FULL + """
                fallen() = 0
                strength(1, 0) = 1
                fallen() = 41
                takeOut(0) = 0
                fallen() = 41
                strength(1, 3) = 0
                fallen() = 41
                lay(0, 0, 0) = 0
                fallen() = 0
                """);
    }

    private void falls() {
        String other = "Returns how many other bricks that stand now would not stand any more without a brick.";
        edges.edge("Promise 17", other, "in a row: none behind the last, one behind the one before", EASY + """
                lay(0, 0, 0) = 0
                lay(1|2|3, 0, 0) = 1
                falls(3) = 0
                falls(2) = 1
                falls(1) = 2
                falls(0) = 3
                """);
        edges.edge("Promise 17", other, "in a ring none falls", EASY + """
                lay(0, 0, 0) = 0
                lay(1|7, 0, 0) = 1
                lay(8, 0, 0) = 2
                falls(1|7|8) = 0
                falls(0) = 3
                """);
        String many = "Returns how many, 0 if it does not stand itself, and all that stand but it if it is the seed.";
        edges.edge("Promise 17", many, "the seed alone, and of a full wall", """
                kind(1, 1, 1, 1) = 0
                lay(41, 0, 0) = 0
                falls(41) = 0
                need(1) = 2
                grow(42) = 41
                falls(41) = 41
                falls(0) = 0
                """);
        edges.edge("Promise 17", many, "one that does not stand, the seed beside it, and none that stands", EASY + """
                lay(0, 0, 0) = 0
                lay(1|2, 0, 0) = 1
                strength(1, 0) = 1
                falls(0|1|2) = 0
                takeOut(0) = 0
                strength(1, 1) = 0
                falls(1|2) = 0
                """);
        placesOf("Promise 17", "falls(%s)");
    }

    /** The brick at 25 errs with those to its left and below it. */
    private static String errs() {
        return EASY + """
                kind(1, 0, 3, 2) = 1
                lay(17, 0, 0) = 0
                lay(18|24, 0, 0) = 1
                lay(25, 1, 0) = 1
                lay(31, 0, 0) = 1
                lay(32, 0, 0) = 1
                """;
    }

    private void errors() {
        edges.edge("Promise 18", "Returns how many errors there are: pair by pair.", "no bricks, one brick, a full wall", """
                errors() = 0
                kind(1, 1, 1, 1) = 0
                lay(17, 0, 0) = 0
                errors() = 0
                need(1) = 2
                grow(42) = 41
                errors() = 0
                """);
        edges.edge("Promise 18", "Returns how many errors there are: pair by pair.", "each pair once", errs() + """
                errors() = 2
                """);
        edges.edge("Promise 18", "Returns how many.",
                "at the end of a row and the start of the next there is none", EASY + """
                kind(1, 2, 2, 2) = 1
                lay(6, 0, 0) = 0
                lay(13, 1, 0) = 1
                lay(5|4|3|2|1|0, 0, 0) = 1
                lay(7, 1, 0) = 1
                errors() = 0
                lay(14, 1, 2) = 1
                errors() = 0
                """);
    }

    private void errorsAt() {
        edges.edge("Promise 19", "Returns how many errors a brick has a part in.", "none, one and two", errs() + """
                errorsAt(17|18|31) = 0
                errorsAt(24|32) = 1
                errorsAt(25) = 2
                """);
        edges.edge("Promise 19", "Returns how many.", "on all four sides, the last that is laid is the seed", EASY + """
                kind(2, 3, 4, 5) = 1
                lay(9, 0, 0) = 0
                lay(10|16|23|24|11|25, 0, 0)
                lay(18, 0, 0) = 2
                strength(1, 0) = 1
                takeOut(9) = 0
                lay(17, 1, 0) = 0
                errorsAt(17) = 4
                errorsAt(10|16|18|24) = 1
                errors() = 4
                """);
        placesOf("Promise 19", "errorsAt(%s)");
    }

    private void nextPlace() {
        edges.edge("Promise 20", "Returns the place at which the next brick grows.",
                "the first place and the last", EASY + """
                lay(1, 0, 0) = 0
                nextPlace() = 0
                grow(40) = 40
                nextPlace() = 41
                """);
        edges.edge("Promise 20", "Returns the place.", "just the need, and one less", """
                kind(1, 1, 1, 1) = 0
                strength(1, 2) = 1
                lay(8, 0, 0) = 0
                nextPlace() = 1
                need(3) = 2
                nextPlace() throws NoSuchElementException
                """);
        String stalled = "Throws `NoSuchElementException` if the wall is stalled";
        edges.edge("Promise 20", stalled, "no kinds, no bricks, full", """
                nextPlace() throws NoSuchElementException
                kind(1, 1, 1, 1) = 0
                nextPlace() throws NoSuchElementException
                need(1) = 2
                lay(41, 0, 0) = 0
                nextPlace() = 34
                grow(42) = 41
                nextPlace() throws NoSuchElementException
                """);
    }

    private void nextBrick() {
        String brick = "Returns the brick that grows next: 4 times its kind, and by how many quarters it is turned.";
        edges.edge("Promise 21", brick, "the first kind, not turned", EASY + """
                lay(17, 0, 3) = 0
                nextBrick() = 0
                """);
        edges.edge("Promise 21", brick, "only at the first place", """
                kind(1, 0, 0, 0) = 0
                need(1) = 2
                lay(1, 0, 3) = 0
                nextPlace() = 0
                nextBrick() = 1
                """);
        edges.edge("Promise 21", "Returns the number.", "the last kind, turned thrice", """
                7 times kind(2, 2, 2, 2)
                kind(1, 0, 0, 0) = 7
                need(1) = 2
                lay(0, 7, 1) = 0
                nextBrick() = 31
                grow(1) = 1
                brickAt(1, false) = 7
                brickAt(1, true) = 3
                """);
        edges.edge("Promise 21", "Throws `NoSuchElementException` if the wall is stalled", "no kinds, no bricks, full", """
                nextBrick() throws NoSuchElementException
                kind(1, 1, 1, 1) = 0
                nextBrick() throws NoSuchElementException
                lay(41, 0, 0) = 0
                nextBrick() throws NoSuchElementException
                need(1) = 2
                nextBrick() = 0
                grow(42) = 41
                nextBrick() throws NoSuchElementException
                """);
    }

    private void choices() {
        String choices = "Returns how many bricks, by kinds and turns, could be laid at a free place without making "
                + "an error.";
        edges.edge("Promise 22", choices, "no kinds, no bricks, no neighbours, all", """
                choices(0|41) = 0
                8 times kind(1, 1, 1, 1)
                choices(0|41) = 0
                need(1) = 2
                lay(17, 0, 0) = 0
                choices(0|41|9) = 0
                choices(10|16|18|24) = 32
                """);
        edges.edge("Promise 22", choices, "just the need, and one less", """
                kind(1, 1, 1, 1) = 0
                lay(17, 0, 0) = 0
                choices(18) = 0
                strength(1, 2) = 1
                choices(18) = 4
                need(3) = 2
                choices(18) = 0
                """);
        edges.edge("Promise 22", choices, "without the turns that make an error", EASY + """
                kind(1, 2, 0, 0) = 1
                lay(17, 0, 0) = 0
                choices(18) = 5
                lay(11, 0, 0) refused 5 1 0
                lay(10, 0, 0) = 1
                lay(11, 0, 0) = 1
                choices(18) = 5
                """);
        edges.edge("Promise 22", "Returns how many.", "beside a brick while there is no seed", EASY + """
                lay(0, 0, 0) = 0
                lay(1, 0, 0) = 1
                strength(1, 0) = 1
                takeOut(0) = 0
                strength(1, 1) = 0
                choices(0|2|8) = 4
                choices(41) = 0
                """);
        edges.edge("Promise 22", NO_PLACE, "below and above, on an empty and on a full wall", """
                choices(-1|42|MIN|MAX) throws IndexOutOfBoundsException
                kind(1, 1, 1, 1) = 0
                need(1) = 2
                lay(0, 0, 0) = 0
                grow(42) = 41
                choices(-1|42|MIN|MAX) throws IndexOutOfBoundsException
                """);
        edges.edge("Promise 22", "Throws `NoSuchElementException` if it has a brick",
                "the first place and the last", FULL + """
                choices(0|41) throws NoSuchElementException
                takeOut(41) = 0
                choices(41) = 4
                """);
    }

    private void stuck() {
        edges.edge("Promise 23", "Returns how many places are stuck.", "no bricks, one brick, full", """
                stuck() = 0
                kind(1, 1, 1, 1) = 0
                stuck() = 0
                lay(0, 0, 0) = 0
                stuck() = 2
                need(1) = 2
                stuck() = 0
                grow(42) = 41
                stuck() = 0
                """);
        edges.edge("Promise 23", "Returns how many.", "every other place of the wall, then all that are free", FULL + """
                strength(1, 0) = 1
                takeOut(1|3|5|7|9|11|13|15|17|19|21|23|25|27|29|31|33|35|37|39|41) = 0
                stuck() = 21
                takeOut(0) = 0
                stuck() = 21
                strength(1, 1) = 0
                stuck() = 0
                """);
    }

    private void growsTo() {
        String most = "Returns how many bricks there would be if the wall grew until it is stalled.";
        edges.edge("Promise 24", most, "no kinds, no bricks, stalled, full", """
                growsTo() = 0
                kind(1, 1, 1, 1) = 0
                growsTo() = 0
                lay(41, 0, 0) = 0
                growsTo() = 1
                need(1) = 2
                growsTo() = 42
                grow(41) = 41
                growsTo() = 42
                """);
        edges.edge("Promise 24", "Returns how many.", "nothing has grown by it", EASY + """
                lay(41, 0, 0) = 0
                growsTo() = 42
                growsTo() = 42
                account(1|3) = 1
                account(4) = 0
                account(8) = 3
                undo() = 2
                growsTo() = 0
                """);
    }

    private void inRow() {
        String count = "Returns how many bricks a row has, or a column.";
        edges.edge("Promise 25", count, "none and all, in the first and the last", FULL + """
                inRow(0|5, false) = 7
                inRow(0|6, true) = 6
                undo() = 3
                inRow(5, false) = 0
                inRow(6, true) = 0
                inRow(0, false) = 1
                inRow(0, true) = 1
                """);
        edges.edge("Promise 25", "Returns how many.", "the first and the last place", EASY + """
                lay(41, 0, 0) = 0
                inRow(5, false) = 1
                inRow(6, true) = 1
                inRow(4, false) = 0
                inRow(5, true) = 0
                """);
        edges.edge("Promise 25", "`row`: the row, or the column, from 0", "the first and the last of each", """
                inRow(0|5, false) = 0
                inRow(0|6, true) = 0
                """);
        String none = "Throws `IndexOutOfBoundsException` if there is no such row or column";
        edges.edge("Promise 25", none, "the row, below and above", """
                inRow(-1|6|7|MIN|MAX, false) throws IndexOutOfBoundsException
                """);
        edges.edge("Promise 25", none, "the column, below and above", """
                inRow(6, true) = 0
                inRow(-1|7|MIN|MAX, true) throws IndexOutOfBoundsException
                """);
    }

    private void weakest() {
        String order = "Returns a brick by its hold: the least first, of several that at the lowest place.";
        edges.edge("Promise 26", order, "the most hold is the last", EASY + """
                strength(1, 3) = 1
                lay(17, 0, 0) = 0
                lay(10|16|18|24, 0, 0) = 3
                weakest(0) = 10
                weakest(1) = 16
                weakest(2) = 18
                weakest(3) = 24
                weakest(4) = 17
                """);
        edges.edge("Promise 26", order, "no hold at all: by places", FULL + """
                strength(1, 0) = 1
                weakest(0) = 0
                weakest(1) = 1
                weakest(41) = 41
                """);
        edges.edge("Promise 26", "Returns the place in the wall.", "a full wall: corners, edges, the middle", FULL + """
                weakest(0) = 0
                weakest(1) = 6
                weakest(2) = 35
                weakest(3) = 41
                weakest(4) = 1
                weakest(21) = 40
                weakest(22) = 8
                weakest(41) = 33
                """);
        edges.edge("Promise 26", "`place`: its place in this order, from 0", "the only brick", """
                kind(1, 1, 1, 1) = 0
                lay(41, 0, 0) = 0
                weakest(0) = 41
                weakest(1|-1) throws NoSuchElementException
                """);
        String none = "Throws `NoSuchElementException` if there is no such place in this order";
        edges.edge("Promise 26", none, "no bricks", "weakest(0|-1|1|41|42|MIN|MAX) throws NoSuchElementException");
        edges.edge("Promise 26", none, "two bricks", EASY + """
                lay(17, 0, 0) = 0
                lay(18, 0, 0) = 1
                weakest(1) = 18
                weakest(2|-1|41|MIN|MAX) throws NoSuchElementException
                """);
        edges.edge("Promise 26", none, "a full wall", FULL + "weakest(42|43|-1|MIN|MAX) throws NoSuchElementException");
    }
}
