/** The edges that the document's terms name: glues, kinds, wall, hold, standing and growing. */
public final class EdgesOfTermsTest {
    /** A need of 1, and a kind that holds by 1 on all sides. */
    private static final String EASY = """
            kind(1, 1, 1, 1) = 0
            need(1) = 2
            """;

    private final Edges edges = new Edges();

    public static void main(String[] args) {
        EdgesOfTermsTest test = new EdgesOfTermsTest();
        test.whatItIs();
        test.calls();
        test.divisions();
        test.glues();
        test.sidesHold();
        test.kinds();
        test.sidesOfKinds();
        test.wall();
        test.placesOfBricks();
        test.seed();
        test.hold();
        test.need();
        test.errors();
        test.standing();
        test.growing();
        test.growingPlaces();
        test.growingPlacesOfKinds();
        test.growingBricks();
        test.growingKindsAndTurns();
        test.stalled();
        test.stuck();
        test.details();
        test.edges.end("What it is", "Terms", "Glues", "Kinds", "Wall", "Hold", "Standing", "Growing", "Details");
    }

    private void whatItIs() {
        edges.edge("What it is", "A wall of bricks that hold by glue: kinds of bricks with glues on their sides, strengths "
                + "of glues, a seed, bricks that are laid where enough glue holds them, turned or not, bricks that come by "
                + "themselves in the order of places, stalled places,", "one of each", """
                kind(0, 1, 0, 0) = 0
                strength(1, 2) = 1
                lay(17, 0, 0) = 0
                seed() = 17
                lay(16, 0, 0) refused 5 2 0
                lay(18, 0, 2) = 2
                stuck() = 6
                grow(1) refused 8 6 0
                kind(0, 0, 1, 1) = 1
                lay(16, 1, 3) refused 5 2 0
                takeOut(18) = 0
                grow(3) = 1
                line(2) shows ...00**..
                """);
        edges.edge("What it is", "errors that are found by the glues of neighbours, bricks that can be taken out without "
                + "others falling, holds in two ways, walls row by row, commands as texts with faults by place, reasons "
                + "with details, a line, accounts, undo, and a snapshot.", "one of each", """
                text "k1112;k1003;n1;l17:0;l18:0**;l24:0" = 6
                lay(25, 1, 0) = 1
                errors() = 1
                takeOut(18) refused 7 1 0
                save() = 4
                takeOut(24) = 0
                hold(17) = 1
                holdAgain(17) = 1
                line(3) shows ....1..
                text "t25;x" fault 4
                account(5) = 1
                undo() = 2
                account(5) = 0
                restore() = 4
                """);
    }

    private void calls() {
        edges.edge("What it is", "An object is used for at most 512 calls after it has been made", "the 512th call", """
                510 times fallen() = 0
                need(6) = 2
                account(2) = 6
                """);
        edges.edge("What it is", "what later calls answer is free.", "they end, and throw nothing by themselves", """
                512 times fallen() = 0
                kind(1, 1, 1, 1)
                need(1)
                lay(41, 0, 3)
                grow(42)
                growsTo()
                line(0)
                text "t0;g1;s13"
                weakest(41)
                undo()
                save()
                restore()
                600 times strengthOf(1)
                """);
    }

    private void divisions() {
        edges.edge("Terms", "A brick stands by its glue.", "no glue at all, and the least that holds", EASY + """
                lay(17, 0, 0) = 0
                lay(18, 0, 0) = 1
                strength(1, 0) = 1
                stands(18) = false
                strength(1, 1) = 0
                stands(18) = true
                """);
        edges.edge("Terms", "Divisions are rounded down, unless something else is told.",
                "an odd hold, and a mean", EASY + """
                lay(17, 0, 0) = 0
                lay(18, 0, 0) = 1
                lay(16, 0, 0) = 1
                lay(10, 0, 0) = 1
                holdAgain(17) = 3
                holdAgain(18) = 1
                meanHold() = 1.5
                """);
    }

    private void glues() {
        String range = "There are the glues 1 to 6, each with a strength from 0 to 3, at first 1;";
        edges.edge("Glues", range, "at first", "strengthOf(1|2|3|4|5|6) = 1");
        edges.edge("Glues", range, "the first and the last glue", """
                strength(1, 2) = 1
                strength(6, 2) = 1
                strengthOf(1|6) = 2
                strengthOf(2|3|4|5) = 1
                """);
        edges.edge("Glues", range, "beside the first and the last glue", "strength(0|7|-1|MIN|MAX, 2) refused 1 0 0");
        edges.edge("Glues", range, "the least and the most strength", """
                strength(1|6, 0) = 1
                strength(1|6, 3) = 0
                strengthOf(1|6) = 3
                """);
        edges.edge("Glues", range, "less and more than these", """
                strength(1|6, -1|4|MIN|MAX) refused 1 0 0
                strengthOf(1|6) = 1
                """);
        String zero = "the glue 0 holds nothing, and its strength is 0.";
        edges.edge("Glues", zero, "its strength at first", "strengthOf(0) = 0");
        edges.edge("Glues", zero, "it cannot be set, not even to what it is", """
                strength(0, 0|1|3) refused 1 0 0
                strengthOf(0) = 0
                """);
        edges.edge("Glues", zero, "beside another glue 0 and beside the glue 6", """
                kind(0, 0, 0, 0) = 0
                kind(6, 6, 6, 6) = 1
                strength(1|2|3|4|5|6, 3) = 1
                need(1) = 2
                lay(17, 0, 0) = 0
                wouldHold(18, 0|1, 0) = 0
                lay(18, 0|1, 0) refused 5 1 0
                """);
    }

    private void sidesHold() {
        String sides = "Two sides hold each other by the strength of their glue, if both have the same one, and by "
                + "nothing otherwise.";
        edges.edge("Glues", sides, "the glue 1 with each strength", """
                kind(1, 1, 1, 1) = 0
                lay(17, 0, 0) = 0
                wouldHold(18, 0, 0) = 1
                strength(1, 0) = 1
                wouldHold(18, 0, 0) = 0
                strength(1, 2) = 0
                wouldHold(18, 0, 0) = 2
                strength(1, 3) = 2
                wouldHold(18, 0, 0) = 3
                """);
        edges.edge("Glues", sides, "the glue 6 beside itself, 5 and 1, all with the most strength", """
                kind(6, 6, 6, 6) = 0
                kind(5, 5, 5, 5) = 1
                kind(1, 1, 1, 1) = 2
                strength(6|5|1, 3) = 1
                lay(17, 0, 0) = 0
                wouldHold(18, 0, 0) = 3
                wouldHold(18, 1|2, 0) = 0
                """);
        edges.edge("Glues", sides, "only the sides towards each other", """
                kind(1, 2, 3, 4) = 0
                kind(3, 4, 1, 2) = 1
                lay(17, 0, 0) = 0
                wouldHold(10|18|24|16, 0, 0) = 0
                wouldHold(10|18|24|16, 1, 0) = 1
                wouldHold(10|18|24|16, 1, 1|2|3) = 0
                """);
    }

    private void kinds() {
        String most = "At most 8 kinds of bricks are told, numbered from 0,";
        edges.edge("Kinds", most, "none", """
                account(0) = 0
                glueOf(0, 0, 0) throws IndexOutOfBoundsException
                lay(0, 0, 0) refused 3 0 0
                """);
        edges.edge("Kinds", most, "eight and one more", """
                kind(1, 1, 1, 1) = 0
                6 times kind(2, 2, 2, 2)
                kind(3, 3, 3, 3) = 7
                account(0) = 8
                glueOf(0, 0, 0) = 1
                glueOf(7, 0, 0) = 3
                kind(4, 4, 4, 4) refused 2 8 0
                account(0) = 8
                glueOf(7, 0, 0) = 3
                glueOf(8, 0, 0) throws IndexOutOfBoundsException
                """);
        edges.edge("Kinds", most, "the eighth again after undo", """
                8 times kind(2, 2, 2, 2)
                undo() = 7
                kind(4, 4, 4, 4) = 7
                kind(4, 4, 4, 4) refused 2 8 0
                """);
    }

    private void sidesOfKinds() {
        String sides = "each with a glue from 0 to 6 for its sides above, to the right, below and to the left, "
                + "numbered from 0 to 3 in this order.";
        edges.edge("Kinds", sides, "the least and the most glue on each side", """
                kind(0, 6, 0, 6) = 0
                kind(6, 0, 6, 0) = 1
                glueOf(0, 0, 0|2) = 0
                glueOf(0, 0, 1|3) = 6
                glueOf(1, 0, 0|2) = 6
                glueOf(1, 0, 1|3) = 0
                """);
        edges.edge("Kinds", sides, "less and more on each side", """
                kind(-1|7|MIN|MAX, 0, 0, 0) refused 1 0 0
                kind(0, -1|7|MIN|MAX, 0, 0) refused 1 0 0
                kind(0, 0, -1|7|MIN|MAX, 0) refused 1 0 0
                kind(0, 0, 0, -1|7|MIN|MAX) refused 1 0 0
                account(0) = 0
                """);
        edges.edge("Kinds", sides, "in this order, and no side before or behind", """
                kind(1, 2, 3, 4) = 0
                glueOf(0, 0, 0) = 1
                glueOf(0, 0, 1) = 2
                glueOf(0, 0, 2) = 3
                glueOf(0, 0, 3) = 4
                glueOf(0, 0, -1|4|MIN|MAX) throws IllegalArgumentException
                """);
        String turned = "A brick can be turned by quarters to the right: turned once, its side above is to the "
                + "right, and so on.";
        edges.edge("Kinds", turned, "once: the left side comes above", """
                kind(1, 2, 3, 4) = 0
                glueOf(0, 1, 0) = 4
                glueOf(0, 1, 1) = 1
                glueOf(0, 1, 2) = 2
                glueOf(0, 1, 3) = 3
                """);
        edges.edge("Kinds", turned, "twice and thrice", """
                kind(1, 2, 3, 4) = 0
                glueOf(0, 2, 0) = 3
                glueOf(0, 2, 1) = 4
                glueOf(0, 2, 2) = 1
                glueOf(0, 2, 3) = 2
                glueOf(0, 3, 0) = 2
                glueOf(0, 3, 1) = 3
                glueOf(0, 3, 2) = 4
                glueOf(0, 3, 3) = 1
                """);
        edges.edge("Kinds", turned, "on the wall: the side above of the seed holds to the right", """
                kind(1, 2, 3, 4) = 0
                kind(0, 0, 0, 1) = 1
                lay(17, 0, 1) = 0
                wouldHold(18, 1, 0) = 1
                wouldHold(10, 1, 3) = 0
                """);
    }

    private void wall() {
        String places = "There are 6 rows of 7 places; the place in the row y, from 0 above, and the column x is 7 y and x.";
        edges.edge("Wall", places, "the four corners", """
                kind(1, 1, 1, 1) = 0
                lay(0, 0, 0) = 0
                inRow(0, false) = 1
                inRow(0, true) = 1
                takeOut(0) = 0
                lay(6, 0, 0) = 0
                inRow(0, false) = 1
                inRow(6, true) = 1
                takeOut(6) = 0
                lay(35, 0, 0) = 0
                inRow(5, false) = 1
                inRow(0, true) = 1
                takeOut(35) = 0
                lay(41, 0, 0) = 0
                inRow(5, false) = 1
                inRow(6, true) = 1
                """);
        edges.edge("Wall", places, "no place before the first or behind the last", """
                kind(1, 1, 1, 1) = 0
                lay(-1|42|MIN|MAX, 0, 0) refused 1 0 0
                brickAt(-1|42|MIN|MAX, false) throws IndexOutOfBoundsException
                """);
        edges.edge("Wall", places, "the end of a row and the start of the next are no neighbours", EASY + """
                lay(20, 0, 0) = 0
                wouldHold(21, 0, 0) = 0
                wouldHold(19|13|27, 0, 0) = 1
                takeOut(20) = 0
                lay(21, 0, 0) = 0
                wouldHold(20, 0, 0) = 0
                wouldHold(22|14|28, 0, 0) = 1
                """);
        edges.edge("Wall", places, "the first and the last row are no neighbours", EASY + """
                lay(3, 0, 0) = 0
                wouldHold(38|41|0, 0, 0) = 0
                wouldHold(2|4|10, 0, 0) = 1
                takeOut(3) = 0
                lay(38, 0, 0) = 0
                wouldHold(3|0|41, 0, 0) = 0
                wouldHold(37|39|31, 0, 0) = 1
                """);
        edges.edge("Wall", places, "the corners have two neighbours each", EASY + """
                lay(0, 0, 0) = 0
                wouldHold(1|7, 0, 0) = 1
                wouldHold(6|35|41|8, 0, 0) = 0
                takeOut(0) = 0
                lay(41, 0, 0) = 0
                wouldHold(40|34, 0, 0) = 1
                wouldHold(0|6|35|33, 0, 0) = 0
                """);
    }

    private void placesOfBricks() {
        String brick = "A place is free, or has a brick of a kind, turned by 0 to 3 quarters.";
        edges.edge("Wall", brick, "free at first and after a brick is taken out", """
                kind(1, 1, 1, 1) = 0
                brickAt(0|41, false|true) throws NoSuchElementException
                lay(0, 0, 0) = 0
                brickAt(0, false|true) = 0
                takeOut(0) = 0
                brickAt(0|41, false|true) throws NoSuchElementException
                """);
        edges.edge("Wall", brick, "each turn, and one less and more", EASY + """
                lay(16, 0, 0) = 0
                lay(17, 0, 1) = 1
                lay(18, 0, 2) = 1
                lay(19, 0, 3) = 1
                brickAt(16, true) = 0
                brickAt(17, true) = 1
                brickAt(18, true) = 2
                brickAt(19, true) = 3
                lay(20, 0, -1|4|MIN|MAX) refused 1 0 0
                """);
        edges.edge("Wall", brick, "the first and the last kind", """
                7 times kind(1, 1, 1, 1)
                kind(2, 2, 2, 2) = 7
                lay(41, 7, 0) = 0
                brickAt(41, false) = 7
                takeOut(41) = 7
                lay(0, 0, 0) = 0
                brickAt(0, false) = 0
                """);
    }

    private void seed() {
        String seed = "A brick that is laid by lay, or by its command, while there is no seed is the seed;";
        edges.edge("Wall", seed, "by lay, at the first place and at the last", """
                kind(1, 1, 1, 1) = 0
                seed() throws NoSuchElementException
                lay(0, 0, 0) = 0
                seed() = 0
                takeOut(0) = 0
                lay(41, 0, 0) = 0
                seed() = 41
                """);
        edges.edge("Wall", seed, "by its command", """
                text "k1111;l41:0***" = 2
                seed() = 41
                """);
        edges.edge("Wall", seed, "not while there is one", EASY + """
                lay(17, 0, 0) = 0
                lay(10, 0, 0) = 1
                seed() = 17
                text "l18:0" = 1
                seed() = 17
                """);
        String hold = "it needs no hold,";
        edges.edge("Wall", hold, "the largest need, no neighbours, no glue", """
                kind(0, 0, 0, 0) = 0
                need(6) = 2
                lay(20, 0, 3) = 0
                lay(21, 0, 0) refused 5 6 0
                """);
        edges.edge("Wall", hold, "by its command", """
                text "k0000;n6;l0:0" = 3
                text "l1:0" refused 5 6 0
                """);
        String there = "and is the seed as long as it is there.";
        edges.edge("Wall", there, "it stays the seed while others come, go, grow and fall", EASY + """
                lay(41, 0, 0) = 0
                lay(40, 0, 0) = 1
                grow(39) = 39
                seed() = 41
                takeOut(0) = 0
                strength(1, 0) = 1
                need(6) = 1
                seed() = 41
                """);
        edges.edge("Wall", there, "no longer when it is taken out, and the next is the seed", EASY + """
                lay(41, 0, 0) = 0
                takeOut(41) = 0
                seed() throws NoSuchElementException
                lay(0, 0, 0) = 0
                seed() = 0
                """);
    }

    private void hold() {
        String together = "The hold of a brick at a place is by how much its sides hold those of the neighbours that "
                + "it has there, together.";
        edges.edge("Hold", together, "no neighbours, one and four, with the most strength", EASY + """
                strength(1, 3) = 1
                lay(17, 0, 0) = 0
                hold(17) = 0
                lay(16, 0, 0) = 3
                hold(17) = 3
                lay(18|10|24, 0, 0) = 3
                hold(17) = 12
                wouldHold(41, 0, 0) = 0
                """);
        edges.edge("Hold", together, "two neighbours in a corner and three at an edge", EASY + """
                lay(1, 0, 0) = 0
                lay(8, 0, 0) = 1
                lay(7, 0, 0) = 1
                wouldHold(0, 0, 0) = 2
                lay(14, 0, 0) = 1
                lay(15, 0, 0) = 2
                lay(22|29|28, 0, 0) = 1
                wouldHold(21, 0, 0) = 3
                """);
    }

    private void need() {
        String range = "The need is from 1 to 6, at first 2:";
        edges.edge("Hold", range, "at first", "account(2) = 2");
        edges.edge("Hold", range, "the least and the most", """
                need(1) = 2
                account(2) = 1
                need(6) = 1
                account(2) = 6
                """);
        edges.edge("Hold", range, "less and more", """
                need(0|7|-1|MIN|MAX) refused 1 0 0
                account(2) = 2
                """);
        String enough = "a brick can be laid at a free place if its hold there is the need or more.";
        edges.edge("Hold", enough, "one less, just the need, one more", """
                kind(1, 1, 1, 1) = 0
                lay(17, 0, 0) = 0
                lay(18, 0, 0) refused 5 1 0
                strength(1, 2) = 1
                lay(18, 0, 0) = 2
                strength(1, 3) = 2
                lay(19, 0, 0) = 3
                """);
        edges.edge("Hold", enough, "just the largest need, and one less", """
                kind(1, 1, 1, 2) = 0
                strength(1, 3) = 1
                strength(2, 2) = 1
                lay(0, 0, 0) = 0
                lay(7, 0, 0) = 3
                lay(1, 0, 3) = 3
                need(6) = 2
                lay(8, 0, 1) refused 5 1 0
                strength(2, 3) = 2
                lay(8, 0, 1) = 6
                """);
        edges.edge("Hold", enough, "not at a place that has a brick", EASY + """
                lay(17, 0, 0) = 0
                lay(18, 0, 0) = 1
                lay(18, 0, 0) refused 4 0 0
                """);
    }

    private void errors() {
        String error = "An error is a pair of neighbours whose sides towards each other are unlike, and neither of "
                + "them is the glue 0.";
        String around = """
                lay(17, 0, 0) = 0
                lay(18|24, 0, 0) = 1
                lay(25, 1, 0) = 1
                """;
        edges.edge("Hold", error, "the glue 1 beside 2", EASY + "kind(1, 0, 0, 2) = 1\n" + around + """
                errors() = 1
                errorsAt(24|25) = 1
                errorsAt(17|18) = 0
                """);
        edges.edge("Hold", error, "the glue 1 beside 6, without strength", EASY + "kind(1, 0, 0, 6) = 1\n" + around + """
                strength(1|6, 0) = 1
                errors() = 1
                """);
        edges.edge("Hold", error, "the glue 1 beside 0, and 0 beside 0", EASY + "kind(1, 0, 0, 0) = 1\n" + around + """
                lay(19, 0, 0) = 1
                lay(26, 1, 0) = 1
                errors() = 0
                errorsAt(24|25|26) = 0
                """);
        edges.edge("Hold", error, "the same glue", EASY + "kind(1, 0, 0, 1) = 1\n" + """
                lay(17, 0, 0) = 0
                lay(18|24, 0, 0) = 1
                lay(25, 1, 0) = 2
                errors() = 0
                """);
        edges.edge("Hold", error, "in the first place and in the last", EASY + """
                kind(0, 1, 3, 0) = 1
                kind(3, 0, 0, 1) = 2
                lay(8, 0, 0) = 0
                lay(1|7, 0, 0) = 1
                lay(0, 1, 0) = 1
                errors() = 1
                errorsAt(0|7) = 1
                grow(42) = 38
                takeOut(41) = 0
                lay(41, 2, 0) = 1
                errors() = 2
                errorsAt(34|41) = 1
                """);
        edges.edge("Hold", error, "bricks that are no neighbours", EASY + "kind(2, 2, 2, 1) = 1\n" + """
                lay(0, 0, 0) = 0
                lay(1, 1, 0) = 1
                lay(7, 0, 0) = 1
                errors() = 0
                """);
    }

    private void standing() {
        String stands = "A brick stands if it is the seed, or can be come to from the seed from neighbour to "
                + "neighbour, each time over two sides that hold each other by 1 or more.";
        edges.edge("Standing", stands, "the seed alone", """
                kind(0, 0, 0, 0) = 0
                lay(0, 0, 0) = 0
                stands(0) = true
                fallen() = 0
                """);
        edges.edge("Standing", stands, "over a strength of 0, of 1 and of 3", EASY + """
                lay(0, 0, 0) = 0
                lay(1, 0, 0) = 1
                stands(1) = true
                strength(1, 0) = 1
                stands(0) = true
                stands(1) = false
                fallen() = 1
                strength(1, 3) = 0
                stands(1) = true
                fallen() = 0
                """);
        edges.edge("Standing", stands, "neighbours with another glue between them", EASY + "kind(1, 0, 0, 2) = 1\n" + """
                lay(17, 0, 0) = 0
                lay(18|24, 0, 0) = 1
                lay(25, 1, 0) = 1
                takeOut(18) refused 7 1 0
                stands(25) = true
                """);
        edges.edge("Standing", stands, "no seed", EASY + """
                lay(0, 0, 0) = 0
                lay(1, 0, 0) = 1
                lay(2, 0, 0) = 1
                strength(1, 0) = 1
                takeOut(0) = 0
                strength(1, 1) = 0
                stands(1|2) = false
                fallen() = 2
                """);
        edges.edge("Standing", stands, "from the first place to the last one, and back", EASY + """
                lay(0, 0, 0) = 0
                grow(42) = 41
                stands(41) = true
                fallen() = 0
                """);
        edges.edge("Standing", stands, "on a way that goes up and to the left", EASY + """
                lay(16, 0, 0) = 0
                lay(17|18|11|4|3|2, 0, 0) = 1
                stands(2) = true
                takeOut(4) refused 7 2 0
                falls(11) = 3
                """);
    }

    private void growing() {
        String never = "A brick that grows is never the seed.";
        edges.edge("Growing", never, "beside the seed", EASY + """
                lay(1, 0, 0) = 0
                grow(1) = 1
                brickAt(0, false) = 0
                seed() = 1
                """);
        edges.edge("Growing", never, "while there is no seed; one that is laid then is", EASY + """
                lay(0, 0, 0) = 0
                lay(1, 0, 0) = 1
                strength(1, 0) = 1
                takeOut(0) = 0
                strength(1, 1) = 0
                grow(1) = 1
                brickAt(0, false) = 0
                seed() throws NoSuchElementException
                fallen() = 2
                lay(41, 0, 0) = 0
                seed() = 41
                fallen() = 2
                """);
    }

    private void growingPlaces() {
        String place = "In a step of growing, the lowest free place is looked for at which some kind can be laid, "
                + "without making an error, in some turn;";
        edges.edge("Growing", place, "the first place", EASY + """
                lay(1, 0, 0) = 0
                nextPlace() = 0
                grow(1) = 1
                brickAt(0, false) = 0
                nextPlace() = 2
                """);
        edges.edge("Growing", place, "the first place, when a step has opened it", EASY + """
                lay(8, 0, 0) = 0
                grow(2) = 2
                brickAt(0|1, false) = 0
                """);
        edges.edge("Growing", place, "the last place", EASY + """
                lay(0, 0, 0) = 0
                grow(40) = 40
                nextPlace() = 41
                grow(1) = 1
                nextPlace() throws NoSuchElementException
                """);
        edges.edge("Growing", place, "above before left, right and below", EASY + """
                lay(17, 0, 0) = 0
                nextPlace() = 10
                lay(10, 0, 0) = 1
                nextPlace() = 3
                lay(3, 0, 0) = 1
                nextPlace() = 2
                """);
    }

    private void growingPlacesOfKinds() {
        String place = "In a step of growing, the lowest free place is looked for at which some kind can be laid, "
                + "without making an error, in some turn;";
        edges.edge("Growing", place, "not where a brick would only hold by making an error", EASY + """
                kind(2, 3, 3, 1) = 1
                lay(0, 0, 0) = 0
                lay(7, 0, 0) = 1
                lay(8, 1, 0) = 1
                wouldHold(1, 0, 0) = 1
                choices(1) = 0
                nextPlace() = 9
                nextBrick() = 5
                grow(1) = 1
                errors() = 0
                """);
        edges.edge("Growing", place, "just the need, and one less", """
                kind(1, 1, 1, 1) = 0
                lay(17, 0, 0) = 0
                nextPlace() throws NoSuchElementException
                strength(1, 2) = 1
                nextPlace() = 10
                need(3) = 2
                nextPlace() throws NoSuchElementException
                """);
        edges.edge("Growing", place, "only the last kind, turned thrice", """
                7 times kind(2, 2, 2, 2)
                kind(1, 0, 0, 0) = 7
                need(1) = 2
                lay(0, 7, 1) = 0
                nextPlace() = 1
                nextBrick() = 31
                """);
        edges.edge("Growing", place, "a lower place that opens by a step is the next", """
                kind(2, 0, 0, 1) = 0
                kind(0, 1, 0, 0) = 1
                need(1) = 2
                lay(14, 1, 0) = 0
                nextPlace() = 15
                grow(2) = 2
                brickAt(8, false) = 0
                nextPlace() = 9
                grow(42) = 3
                line(0) shows ..0**0...
                line(1) shows .0**0....
                line(2) shows 10.....
                """);
    }

    private void growingBricks() {
        String most = "of these the one with the most hold is laid,";
        edges.edge("Growing", most, "a turn with two sides after one with one side", """
                kind(0, 1, 1, 0) = 0
                kind(0, 0, 1, 1) = 1
                need(1) = 2
                lay(0, 0, 0) = 0
                lay(1, 1, 0) = 1
                lay(7, 0, 3) = 1
                wouldHold(8, 0, 1|3) = 1
                wouldHold(8, 0, 2) = 2
                nextPlace() = 8
                nextBrick() = 2
                """);
        edges.edge("Growing", most, "a higher kind with two sides before a lower one with one", """
                kind(0, 0, 0, 1) = 0
                kind(0, 1, 1, 0) = 1
                need(1) = 2
                lay(0, 1, 0) = 0
                lay(1, 1, 1) = 1
                lay(7, 1, 3) = 1
                wouldHold(8, 0, 0) = 1
                nextPlace() = 8
                nextBrick() = 6
                grow(1) = 1
                brickAt(8, false) = 1
                brickAt(8, true) = 2
                """);
        edges.edge("Growing", most, "a higher kind with a strength of 3 before a lower one with 1", """
                kind(4, 1, 0, 0) = 0
                kind(0, 3, 4, 0) = 1
                kind(0, 0, 2, 3) = 2
                need(1) = 2
                strength(2, 3) = 1
                lay(0, 1, 0) = 0
                lay(1, 2, 0) = 1
                lay(7, 0, 0) = 1
                wouldHold(8, 0, 2) = 1
                wouldHold(8, 2, 2) = 3
                choices(8) = 2
                nextPlace() = 8
                nextBrick() = 10
                """);
    }

    private void growingKindsAndTurns() {
        String lowest = "of several the one of the lowest kind,";
        edges.edge("Growing", lowest, "although a higher one is turned less", """
                kind(2, 2, 2, 2) = 0
                kind(1, 0, 0, 0) = 1
                kind(0, 0, 0, 1) = 2
                need(1) = 2
                lay(0, 2, 2) = 0
                nextPlace() = 1
                wouldHold(1, 2, 0) = 1
                nextBrick() = 7
                """);
        edges.edge("Growing", lowest, "of eight alike the first", """
                8 times kind(1, 1, 1, 1)
                need(1) = 2
                lay(0, 7, 0) = 0
                nextBrick() = 0
                """);
        String least = "and then the one that is turned the least.";
        edges.edge("Growing", least, "alike in all turns", EASY + """
                lay(0, 0, 3) = 0
                nextBrick() = 0
                grow(1) = 1
                brickAt(1, true) = 0
                """);
        edges.edge("Growing", least, "alike in two turns", """
                kind(1, 0, 1, 0) = 0
                need(1) = 2
                lay(0, 0, 1) = 0
                nextPlace() = 1
                nextBrick() = 1
                """);
        edges.edge("Growing", least, "thrice, if it must be", """
                kind(1, 2, 0, 0) = 0
                need(1) = 2
                lay(0, 0, 1) = 0
                nextPlace() = 1
                nextBrick() = 3
                """);
    }

    private void stalled() {
        String stalled = "A wall is stalled if there is no such place.";
        edges.edge("Growing", stalled, "no kinds", """
                nextPlace() throws NoSuchElementException
                grow(1) refused 8 0 0
                """);
        edges.edge("Growing", stalled, "no bricks", EASY + """
                nextPlace() throws NoSuchElementException
                grow(1) refused 8 0 0
                """);
        edges.edge("Growing", stalled, "full", EASY + """
                lay(41, 0, 0) = 0
                grow(42) = 41
                nextPlace() throws NoSuchElementException
                grow(1) refused 8 0 0
                """);
        edges.edge("Growing", stalled, "the hold is too little everywhere", """
                kind(1, 1, 1, 1) = 0
                lay(17, 0, 0) = 0
                nextPlace() throws NoSuchElementException
                grow(1) refused 8 4 0
                """);
    }

    private void stuck() {
        String stuck = "A place is stuck if it is free, has a neighbour, and no such kind.";
        edges.edge("Growing", stuck, "no bricks", EASY + "stuck() = 0");
        edges.edge("Growing", stuck, "full", EASY + """
                lay(0, 0, 0) = 0
                grow(42) = 41
                strength(1, 0) = 1
                stuck() = 0
                """);
        edges.edge("Growing", stuck, "beside a brick in a corner, at an edge and in the middle", """
                kind(1, 1, 1, 1) = 0
                lay(0, 0, 0) = 0
                stuck() = 2
                takeOut(0) = 0
                lay(41, 0, 0) = 0
                stuck() = 2
                takeOut(41) = 0
                lay(1, 0, 0) = 0
                stuck() = 3
                takeOut(1) = 0
                lay(3, 0, 0) = 0
                stuck() = 3
                takeOut(3) = 0
                lay(17, 0, 0) = 0
                stuck() = 4
                """);
        edges.edge("Growing", stuck, "not where a kind can be laid", EASY + """
                lay(17, 0, 0) = 0
                stuck() = 0
                strength(1, 0) = 1
                stuck() = 4
                """);
        edges.edge("Growing", stuck, "where a kind would make an error", EASY + """
                kind(2, 3, 3, 1) = 1
                lay(0, 0, 0) = 0
                lay(7, 0, 0) = 1
                lay(8, 1, 0) = 1
                choices(1) = 0
                choices(9|15) = 2
                stuck() = 1
                """);
    }

    private void details() {
        edges.edge("Details", "and its hold is told as 0 by lay.", "with the most strength", EASY + """
                lay(0, 0, 0) = 0
                lay(1, 0, 0) = 1
                strength(1, 0) = 1
                takeOut(0) = 0
                strength(1, 3) = 0
                lay(2, 0, 0) = 0
                seed() = 2
                hold(2) = 3
                stands(1) = true
                """);
        edges.edge("Details", "A brick that lay lays beside bricks while there is no seed is the seed, too,",
                "by its command", EASY + """
                lay(0, 0, 0) = 0
                lay(1, 0, 0) = 1
                strength(1, 0) = 1
                text "t0;s13;l0:0" = 3
                seed() = 0
                hold(0) = 3
                """);
        edges.edge("Details", "Turns of a kind that look alike count one by one.",
                "all four, two by two, and none", EASY + """
                kind(1, 0, 1, 0) = 1
                kind(2, 2, 2, 2) = 2
                lay(0, 0, 0) = 0
                choices(1) = 6
                choices(7) = 6
                """);
        String grown = "A wall grows to so many bricks as there are then, with those that were there.";
        edges.edge("Details", grown, "none, one, all", """
                growsTo() = 0
                kind(1, 1, 1, 1) = 0
                growsTo() = 0
                lay(0, 0, 0) = 0
                growsTo() = 1
                need(1) = 2
                growsTo() = 42
                grow(41) = 41
                growsTo() = 42
                """);
    }
}
