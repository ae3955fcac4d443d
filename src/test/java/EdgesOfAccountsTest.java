/** The edges of changes that can be undone, and of the promises 33 to 38. */
public final class EdgesOfAccountsTest {
    /** A need of 1, and a kind that holds by 1 on all sides. */
    private static final String EASY = """
            kind(1, 1, 1, 1) = 0
            need(1) = 2
            """;
    private static final String FULL = EASY + """
            lay(0, 0, 0) = 0
            grow(42) = 41
            """;
    /** Eight changes of the need, from 2 to 6. */
    private static final String EIGHT = """
            need(1) = 2
            need(2) = 1
            need(3) = 2
            need(4) = 3
            need(5) = 4
            need(4) = 5
            need(5) = 4
            need(6) = 5
            """;

    private final Edges edges = new Edges();

    public static void main(String[] args) {
        EdgesOfAccountsTest test = new EdgesOfAccountsTest();
        test.changes();
        test.noChanges();
        test.latestEight();
        test.moreThanEight();
        test.notOfThem();
        test.meanHold();
        test.standing();
        test.accountsOfWall();
        test.accountsSoFar();
        test.accountsOfChangesAndText();
        test.noAccount();
        test.undo();
        test.undoOfManyCalls();
        test.undoOfNothing();
        test.save();
        test.restore();
        test.restoreOfNothing();
        test.edges.end("Changes", "Promise 33", "Promise 34", "Promise 35", "Promise 36", "Promise 37", "Promise 38");
    }

    private void changes() {
        String sorts = "What can be undone are the successful calls of kind, lay, takeOut, grow, strength, need and "
                + "commands.";
        edges.edge("Changes", sorts, "each sort, one by one", """
                kind(1, 1, 1, 1) = 0
                account(8) = 1
                need(1) = 2
                account(8) = 2
                lay(17, 0, 0) = 0
                account(8) = 3
                grow(2) = 2
                account(8) = 4
                takeOut(3) = 0
                account(8) = 5
                strength(1, 3) = 1
                account(8) = 6
                text "n2;k2222;s63;l18:0;g1;t3" = 6
                account(8) = 7
                """);
        edges.edge("Changes", sorts, "each is undone", """
                kind(1, 1, 1, 1) = 0
                need(1) = 2
                lay(17, 0, 0) = 0
                grow(2) = 2
                takeOut(3) = 0
                strength(1, 3) = 1
                text "n2;k2222;s63;l18:0;g1" = 5
                undo() = 6
                account(0|2) = 1
                account(4) = 2
                account(1) = 2
                strengthOf(6) = 1
                undo() = 5
                strengthOf(1) = 1
                undo() = 4
                brickAt(3, false) = 0
                account(5) = 0
                undo() = 3
                account(1) = 1
                account(4) = 0
                undo() = 2
                seed() throws NoSuchElementException
                account(3) = 0
                undo() = 1
                account(2) = 2
                undo() = 0
                account(0) = 0
                """);
    }

    private void noChanges() {
        String sorts = "What can be undone are the successful calls of kind, lay, takeOut, grow, strength, need and "
                + "commands.";
        edges.edge("Changes", sorts, "none that is refused", """
                kind(7, 0, 0, 0) refused 1 0 0
                lay(0, 0, 0) refused 3 0 0
                takeOut(0) refused 6 0 0
                grow(1) refused 8 0 0
                strength(1, 1) refused 9 0 0
                need(2) refused 9 0 0
                text "n3;n3" refused 9 0 1
                text "n3;" fault 3
                account(8) = 0
                """);
        edges.edge("Changes", sorts, "no other call", FULL + """
                append(48) = 1
                line(0) = 7
                growsTo() = 42
                save() = 42
                account(8) = 4
                undo() = 3
                account(8) = 3
                """);
    }

    private void latestEight() {
        String kept = "What there was before each of the latest 8 is kept;";
        edges.edge("Changes", kept, "none, one, eight", """
                account(8) = 0
                kind(0, 0, 0, 0) = 0
                account(8) = 1
                7 times kind(0, 0, 0, 0)
                account(8) = 8
                undo() = 7
                6 times undo()
                undo() = 0
                account(0) = 0
                undo() throws IllegalStateException
                """);
        edges.edge("Changes", kept, "one more: the first is kept no longer", EIGHT + """
                need(1) = 6
                account(8) = 8
                undo() = 7
                account(2) = 6
                6 times undo()
                undo() = 0
                account(2) = 1
                undo() throws IllegalStateException
                account(2) = 1
                """);
    }

    private void moreThanEight() {
        String kept = "What there was before each of the latest 8 is kept;";
        edges.edge("Changes", kept, "eight after some were undone", EIGHT + """
                undo() = 7
                undo() = 6
                account(2) = 4
                need(1) = 4
                account(8) = 7
                need(2) = 1
                account(8) = 8
                need(3) = 2
                account(8) = 8
                undo() = 7
                undo() = 6
                undo() = 5
                account(2) = 4
                5 times undo()
                undo() throws IllegalStateException
                account(2) = 1
                """);
        edges.edge("Changes", kept, "many more than eight", EIGHT + """
                need(2) = 6
                need(3) = 2
                need(2) = 3
                need(3) = 2
                need(2) = 3
                need(3) = 2
                need(2) = 3
                need(3) = 2
                need(2) = 3
                8 times undo()
                account(2) = 2
                undo() throws IllegalStateException
                """);
        edges.edge("Changes", "restore forgets it.", "eight changes before and after the snapshot", EIGHT + """
                save() = 0
                undo() = 7
                restore() = 0
                account(8) = 0
                account(2) = 6
                undo() throws IllegalStateException
                need(1) = 6
                undo() = 0
                account(2) = 6
                undo() throws IllegalStateException
                """);
    }

    private void notOfThem() {
        String stay = "The text buffer, the fault position, the reason and the line do not belong to it, and stay.";
        String told = EASY + """
                lay(17, 0, 0) = 0
                save() = 1
                grow(1) = 1
                text "n3;" fault 3
                text "n2;t41" refused 6 41 1
                text "n" fault 1
                line(2) shows ...0...
                type "g1"
                """;
        String stays = """
                account(9) = 2
                faultPosition() = 1
                reason(0) = 6
                reason(1) = 41
                reason(2) = 1
                character(3) = 0
                character(7) throws IndexOutOfBoundsException
                commands() = 1
                """;
        edges.edge("Changes", stay, "undo", told + "undo() = 3\n" + stays);
        edges.edge("Changes", stay, "restore", told + "restore() = 1\n" + stays);
        edges.edge("Changes", stay, "undo of the commands that wrote them", """
                text "n3" = 1
                undo() = 0
                account(9) = 0
                faultPosition() = -1
                """);
    }

    private void meanHold() {
        String mean = "Returns the mean hold of the bricks: the sum divided by their number, both as doubles.";
        edges.edge("Promise 33", mean, "one brick, two, three and no hold", EASY + """
                lay(17, 0, 0) = 0
                meanHold() = 0.0
                lay(18, 0, 0) = 1
                meanHold() = 1.0
                lay(19, 0, 0) = 1
                meanHold() = 1.3333333333333333
                strength(1, 0) = 1
                meanHold() = 0.0
                """);
        edges.edge("Promise 33", "Returns the mean.", "a full wall with the most strength", FULL + """
                strength(1, 3) = 1
                account(6) = 426
                meanHold() = 10.142857142857142
                """);
        edges.edge("Promise 33", "Throws `ArithmeticException` if there are none", "at first and when all are taken out", """
                meanHold() throws ArithmeticException
                kind(1, 1, 1, 1) = 0
                lay(17, 0, 0) = 0
                meanHold() = 0.0
                takeOut(17) = 0
                meanHold() throws ArithmeticException
                """);
    }

    private void standing() {
        String share = "Returns the share of the bricks that stand, both numbers as floats.";
        edges.edge("Promise 34", share, "all, a third, none", EASY + """
                lay(17, 0, 0) = 0
                standing() = 1.0
                lay(18|19, 0, 0) = 1
                standing() = 1.0
                strength(1, 0) = 1
                standing() = 0.33333334
                takeOut(17) = 0
                standing() = 0.0
                """);
        edges.edge("Promise 34", "Returns the share.", "one of a full wall, and all of it", FULL + """
                standing() = 1.0
                strength(1, 0) = 1
                standing() = 0.023809524
                """);
        edges.edge("Promise 34", "Throws `ArithmeticException` if there are none", "at first and when all are taken out", """
                standing() throws ArithmeticException
                kind(1, 1, 1, 1) = 0
                lay(17, 0, 0) = 0
                standing() = 1.0
                takeOut(17) = 0
                standing() throws ArithmeticException
                """);
    }

    private void accountsOfWall() {
        edges.edge("Promise 35", "Returns an account.", "at first", """
                account(0|1|3|4|5|6|7|8|9) = 0
                account(2) = 2
                """);
        edges.edge("Promise 35", "0 for the kinds,", "none, one, eight", """
                account(0) = 0
                kind(0, 0, 0, 0) = 0
                account(0) = 1
                7 times kind(0, 0, 0, 0)
                account(0) = 8
                """);
        edges.edge("Promise 35", "1 for the bricks,", "none, one, all, one less", """
                account(1) = 0
                kind(1, 1, 1, 1) = 0
                need(1) = 2
                lay(41, 0, 0) = 0
                account(1) = 1
                grow(42) = 41
                account(1) = 42
                takeOut(0) = 0
                account(1) = 41
                """);
        edges.edge("Promise 35", "2 for the need,", "at first, the least and the most", """
                account(2) = 2
                need(1) = 2
                account(2) = 1
                need(6) = 1
                account(2) = 6
                """);
        edges.edge("Promise 35", "6 for all holds together,", "none, two bricks, a full wall with the most strength", """
                account(6) = 0
                kind(1, 1, 1, 1) = 0
                need(1) = 2
                lay(0, 0, 0) = 0
                account(6) = 0
                lay(1, 0, 0) = 1
                account(6) = 2
                grow(42) = 40
                account(6) = 142
                strength(1, 3) = 1
                account(6) = 426
                """);
        edges.edge("Promise 35", "7 for the pairs of neighbours,", "none, one, all, also without any hold", """
                account(7) = 0
                kind(1, 1, 1, 1) = 0
                need(1) = 2
                lay(0, 0, 0) = 0
                account(7) = 0
                lay(1, 0, 0) = 1
                account(7) = 1
                grow(42) = 40
                account(7) = 71
                strength(1, 0) = 1
                account(7) = 71
                """);
    }

    private void accountsSoFar() {
        edges.edge("Promise 35", "3 for the bricks laid so far, by lay and by growing,",
                "taking out and refusals do not count", FULL + """
                account(3) = 42
                takeOut(41) = 0
                account(3) = 42
                lay(0, 0, 0) refused 4 0 0
                account(3) = 42
                lay(41, 0, 0) = 2
                account(3) = 43
                takeOut(41) = 0
                grow(1) = 1
                account(3) = 44
                """);
        edges.edge("Promise 35", "4 for those that grew,", "none by lay, all by growing", FULL + """
                account(4) = 41
                takeOut(41) = 0
                lay(41, 0, 0) = 2
                account(4) = 41
                takeOut(41) = 0
                grow(42) = 1
                account(4) = 42
                """);
        edges.edge("Promise 35", "5 for those taken out,", "none, one, two, and one that is refused", EASY + """
                account(5) = 0
                lay(17, 0, 0) = 0
                lay(18, 0, 0) = 1
                takeOut(17) refused 7 1 0
                account(5) = 0
                takeOut(18) = 0
                account(5) = 1
                takeOut(17) = 0
                account(5) = 2
                """);
    }

    private void accountsOfChangesAndText() {
        edges.edge("Promise 35", "8 for the changes that can be undone,",
                "none, eight, one more", "account(8) = 0\n" + EIGHT + """
                account(8) = 8
                need(1) = 6
                account(8) = 8
                undo() = 7
                account(8) = 7
                """);
        edges.edge("Promise 35", "9 for the characters in the text buffer", "none, one, sixty, one more", """
                account(9) = 0
                append(120) = 1
                account(9) = 1
                59 times append(120)
                account(9) = 60
                append(120) throws IllegalStateException
                account(9) = 60
                commands() throws IllegalArgumentException
                account(9) = 0
                """);
    }

    private void noAccount() {
        edges.edge("Promise 35", "Returns the account.", "the first and the last", """
                type "n"
                kind(0, 0, 0, 0) = 0
                account(0|9) = 1
                """);
        edges.edge("Promise 35", "Throws `IllegalArgumentException` if what is not from 0 to 9", "below and above", """
                account(-1|10|MIN|MAX) throws IllegalArgumentException
                """);
    }

    private void undo() {
        String latest = "Undoes the latest call that can be undone.";
        edges.edge("Promise 36", latest, "only the latest, and not one that was refused", EASY + """
                lay(17, 0, 0) = 0
                lay(17, 0, 0) refused 4 0 0
                line(2) = 7
                undo() = 2
                account(1) = 0
                account(2) = 1
                """);
        edges.edge("Promise 36", latest, "each sort alone, not what came just before it", """
                kind(1, 1, 1, 1) = 0
                need(1) = 2
                undo() = 1
                account(0) = 1
                need(1) = 2
                strength(1, 3) = 1
                undo() = 2
                account(2) = 1
                strength(1, 3) = 1
                lay(17, 0, 0) = 0
                undo() = 3
                strengthOf(1) = 3
                lay(17, 0, 0) = 0
                grow(1) = 1
                undo() = 4
                seed() = 17
                grow(1) = 1
                takeOut(10) = 0
                undo() = 5
                brickAt(10, false) = 0
                takeOut(10) = 0
                kind(2, 2, 2, 2) = 1
                undo() = 6
                account(5) = 1
                kind(2, 2, 2, 2) = 1
                text "n2;k3333" = 2
                undo() = 7
                account(0) = 2
                account(2) = 1
                """);
        edges.edge("Promise 36", latest, "a seed that was taken out is the seed again", EASY + """
                lay(17, 0, 0) = 0
                takeOut(17) = 0
                lay(0, 0, 0) = 0
                undo() = 4
                seed() throws NoSuchElementException
                undo() = 3
                seed() = 17
                """);
    }

    private void undoOfManyCalls() {
        String latest = "Undoes the latest call that can be undone.";
        edges.edge("Promise 36", latest, "all commands of a text at once", """
                text "k1111;n1;l17:0;g41;s63" = 5
                undo() = 0
                account(0|1|3|4) = 0
                account(2) = 2
                strengthOf(6) = 1
                """);
        edges.edge("Promise 36", "Returns the number of calls that can still be undone.", "seven to none", EIGHT + """
                undo() = 7
                undo() = 6
                undo() = 5
                undo() = 4
                undo() = 3
                undo() = 2
                undo() = 1
                undo() = 0
                account(2) = 2
                """);
    }

    private void undoOfNothing() {
        String none = "Throws `IllegalStateException` if there is none";
        edges.edge("Promise 36", none, "at first, and after refusals alone", """
                undo() throws IllegalStateException
                need(2) refused 9 0 0
                text "x" fault 0
                undo() throws IllegalStateException
                """);
        edges.edge("Promise 36", none, "after the only change, after eight, and after nine", """
                need(1) = 2
                undo() = 0
                undo() throws IllegalStateException
                """ + EIGHT + """
                8 times undo()
                undo() throws IllegalStateException
                account(2) = 2
                """ + EIGHT + """
                need(1) = 6
                8 times undo()
                undo() throws IllegalStateException
                account(2) = 1
                """);
        edges.edge("Promise 36", none, "after restore", EASY + """
                save() = 0
                lay(17, 0, 0) = 0
                restore() = 0
                undo() throws IllegalStateException
                """);
    }

    private void save() {
        edges.edge("Promise 37", "Saves all that can be undone, in place of an earlier snapshot.", "a second one", EASY + """
                lay(17, 0, 0) = 0
                save() = 1
                lay(18, 0, 0) = 1
                save() = 2
                takeOut(18) = 0
                restore() = 2
                brickAt(18, false) = 0
                """);
        edges.edge("Promise 37", "Saves all that can be undone,",
                "kinds, strengths, need, bricks, seed and what was counted", EASY + """
                strength(6, 3) = 1
                lay(41, 0, 3) = 0
                grow(1) = 1
                takeOut(34) = 0
                save() = 1
                kind(2, 2, 2, 2) = 1
                strength(6, 0) = 3
                takeOut(41) = 0
                lay(0, 1, 0) = 0
                grow(1) = 1
                need(6) = 1
                restore() = 1
                account(0|1|2|4|5) = 1
                account(3) = 2
                strengthOf(6) = 3
                seed() = 41
                brickAt(41, true) = 3
                brickAt(0, false) throws NoSuchElementException
                """);
        edges.edge("Promise 37", "Saves all that can be undone,", "the eighth kind, where another one is told then", """
                7 times kind(0, 0, 0, 0)
                kind(1, 2, 3, 4) = 7
                save() = 0
                undo() = 7
                kind(6, 6, 6, 6) = 7
                restore() = 0
                glueOf(7, 0, 0) = 1
                glueOf(7, 0, 3) = 4
                """);
        edges.edge("Promise 37", "Returns the number of bricks.", "none, one, all", """
                save() = 0
                kind(1, 1, 1, 1) = 0
                need(1) = 2
                lay(41, 0, 0) = 0
                save() = 1
                grow(42) = 41
                save() = 42
                account(8) = 4
                """);
    }

    private void restore() {
        edges.edge("Promise 38", "Restores what was saved; the snapshot is kept.",
                "again and again, whatever comes between", FULL + """
                save() = 42
                takeOut(41) = 0
                restore() = 42
                strength(1, 0) = 1
                takeOut(0) = 0
                restore() = 42
                seed() = 0
                fallen() = 0
                restore() = 42
                """);
        edges.edge("Promise 38", "Restores what was saved; the snapshot is kept.", "undo does not undo it", EASY + """
                save() = 0
                undo() = 1
                undo() = 0
                account(0) = 0
                restore() = 0
                account(0|2) = 1
                """);
        edges.edge("Promise 38", "Returns the number of bricks.", "none, although there were all", """
                save() = 0
                kind(1, 1, 1, 1) = 0
                need(1) = 2
                lay(41, 0, 0) = 0
                grow(42) = 41
                restore() = 0
                account(0|1|3) = 0
                """);
    }

    private void restoreOfNothing() {
        String none = "Throws `IllegalStateException` if there is no snapshot";
        edges.edge("Promise 38", none, "at first", "restore() throws IllegalStateException");
        edges.edge("Promise 38", none, "after changes and undo, without save", EASY + """
                lay(17, 0, 0) = 0
                undo() = 2
                restore() throws IllegalStateException
                account(8) = 2
                """);
    }
}
