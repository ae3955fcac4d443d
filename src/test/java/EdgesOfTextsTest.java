/** The edges of texts, and of the promises 27 to 32. */
public final class EdgesOfTextsTest {
    /** A need of 1, a kind that holds by 1 on all sides, and a seed of it. */
    private static final String SEEDED = """
            kind(1, 1, 1, 1) = 0
            need(1) = 2
            lay(17, 0, 0) = 0
            """;
    private static final String SIXTY_SIGNS = "l18:0***;l19:0***;l20:0***;l11:0***;l12:0***;l13:0***;t13;g1";

    private final Edges edges = new Edges();

    public static void main(String[] args) {
        EdgesOfTextsTest test = new EdgesOfTextsTest();
        test.manyCommands();
        test.kindCommand();
        test.layCommand();
        test.takeOutAndGrowCommands();
        test.strengthAndNeedCommands();
        test.digits();
        test.faultPlaces();
        test.tooEarly();
        test.asMethods();
        test.allOrNone();
        test.append();
        test.commands();
        test.commandsThrow();
        test.faultPosition();
        test.reason();
        test.line();
        test.lineRefused();
        test.character();
        test.edges.end("Texts", "Promise 27", "Promise 28", "Promise 29", "Promise 30", "Promise 31", "Promise 32");
    }

    private void manyCommands() {
        String more = "The text buffer holds one or more commands with \";\" between them:";
        edges.edge("Texts", more, "no command", """
                text "" fault 0
                """);
        edges.edge("Texts", more, "one, two, and the most that sixty signs can hold", """
                text "n1" = 1
                text "n2;n1" = 2
                text "n2;n1;n2;n1;n2;n1;n2;n1;n2;n1;n2;n1;n2;n1;n2;n1;n2;n1;n2;n1" = 20
                """);
        edges.edge("Texts", more, "a \";\" too many: before, between and behind", """
                text ";" fault 0
                text ";n3" fault 0
                text "n3;;n2" fault 3
                text "n3;" fault 3
                text "n3;n2;" fault 6
                """);
        edges.edge("Texts", more, "no \";\", or something else between them", """
                text "n3n2" fault 2
                text "n3,n2" fault 2
                text "n3 ;n2" fault 2
                text "n3; n2" fault 3
                text "n3:n2" fault 2
                """);
    }

    private void kindCommand() {
        String kind = "\"k\" and four glues tells a kind;";
        edges.edge("Texts", kind, "the least and the most glue", """
                text "k0606" = 1
                glueOf(0, 0, 0|2) = 0
                glueOf(0, 0, 1|3) = 6
                """);
        edges.edge("Texts", kind, "three and five", """
                text "k123" fault 4
                text "k123;n1" fault 4
                text "k12345" fault 5
                """);
        edges.edge("Texts", kind, "no digit at the first and at the last", """
                text "kx234" fault 1
                text "k123x" fault 4
                text "k-123" fault 1
                """);
        edges.edge("Texts", kind, "a digit that is no glue", """
                text "k7000" refused 1 0 0
                text "k0009" refused 1 0 0
                account(0) = 0
                """);
    }

    private void layCommand() {
        String lay = "\"l\", a place, \":\" and a kind, and for each quarter by which it is turned \"*\", at most "
                + "three, lays a brick;";
        edges.edge("Texts", lay, "none to three quarters", SEEDED + """
                text "l16:0" = 1
                text "l18:0*" = 1
                text "l19:0**" = 1
                text "l20:0***" = 1
                brickAt(16, true) = 0
                brickAt(18, true) = 1
                brickAt(19, true) = 2
                brickAt(20, true) = 3
                """);
        edges.edge("Texts", lay, "four quarters", SEEDED + """
                text "l18:0****" fault 8
                text "l8:0****" fault 7
                brickAt(18, false) throws NoSuchElementException
                """);
        edges.edge("Texts", lay, "each part is missing", """
                text "l" fault 1
                text "l:0" fault 1
                text "l17" fault 3
                text "l170" fault 3
                text "l17;n1" fault 3
                text "l17:" fault 4
                text "l17:*" fault 4
                text "l17:;n1" fault 4
                """);
        edges.edge("Texts", lay, "something behind the kind and behind the quarters", """
                text "l17:00" fault 5
                text "l17:0:" fault 5
                text "l17:0*0" fault 6
                text "l17:0***0" fault 8
                """);
        edges.edge("Texts", lay, "the quarters of one command are not those of the next", SEEDED + """
                text "l18:0***;l19:0;l20:0*" = 3
                brickAt(18, true) = 3
                brickAt(19, true) = 0
                brickAt(20, true) = 1
                """);
        edges.edge("Texts", lay, "the first and the last place and kind", """
                8 times kind(1, 1, 1, 1)
                text "l0:7" = 1
                brickAt(0, false) = 7
                text "t0;l41:0" = 2
                brickAt(41, false) = 0
                text "t41;l0:8" refused 3 8 1
                text "t41;l42:0" refused 1 0 1
                """);
    }

    private void takeOutAndGrowCommands() {
        String out = "\"t\" and a place takes a brick out;";
        edges.edge("Texts", out, "the first and the last place", """
                kind(1, 1, 1, 1) = 0
                text "l0:0;t0;l41:0;t41" = 4
                account(5) = 2
                """);
        edges.edge("Texts", out, "no place, and more than one", """
                text "t" fault 1
                text "t;n1" fault 1
                text "tx" fault 1
                text "t17:" fault 3
                text "t17*" fault 3
                """);
        String grow = "\"g\" and a number lets so many bricks grow;";
        edges.edge("Texts", grow, "the least and the most, and beside them", SEEDED + """
                text "g0" refused 1 0 0
                text "g43" refused 1 0 0
                text "g99" refused 1 0 0
                text "g1" = 1
                account(4) = 1
                text "g42" = 1
                account(4) = 41
                """);
        edges.edge("Texts", grow, "no number", """
                text "g" fault 1
                text "g;n1" fault 1
                text "g-1" fault 1
                text "g1x" fault 2
                """);
    }

    private void strengthAndNeedCommands() {
        String strength = "\"s\", a glue and a strength sets its strength;";
        edges.edge("Texts", strength, "the first and the last glue, the least and the most strength", """
                text "s10;s63" = 2
                strengthOf(1) = 0
                strengthOf(6) = 3
                """);
        edges.edge("Texts", strength, "beside them", """
                text "s02" refused 1 0 0
                text "s72" refused 1 0 0
                text "s14" refused 1 0 0
                text "s11" refused 9 0 0
                """);
        edges.edge("Texts", strength, "one digit and three", """
                text "s" fault 1
                text "s1" fault 2
                text "s1;n1" fault 2
                text "s102" fault 3
                text "s1-1" fault 2
                """);
        String need = "and \"n\" and a digit sets the need.";
        edges.edge("Texts", need, "the least and the most, and beside them", """
                text "n1" = 1
                text "n6" = 1
                text "n0" refused 1 0 0
                text "n7" refused 1 0 0
                text "n9" refused 1 0 0
                text "n6" refused 9 0 0
                account(2) = 6
                """);
        edges.edge("Texts", need, "no digit and two", """
                text "n" fault 1
                text "n;n1" fault 1
                text "n12" fault 2
                text "n01" fault 2
                """);
    }

    private void digits() {
        String digits = "Places and numbers have 1 or 2 digits, all else one.";
        edges.edge("Texts", digits, "places of 1 and 2 digits, with a 0 before, and of 3", """
                kind(1, 1, 1, 1) = 0
                text "l0:0;t0" = 2
                text "l00:0;t00" = 2
                text "l07:0;t7" = 2
                text "l41:0;t41" = 2
                text "l007:0" fault 3
                text "l041:0" fault 3
                text "t007" fault 3
                text "t123" fault 3
                """);
        edges.edge("Texts", digits, "numbers of 1 and 2 digits, with a 0 before, and of 3", SEEDED + """
                text "g1" = 1
                text "g01" = 1
                account(4) = 2
                text "g10" = 1
                account(4) = 12
                text "g001" fault 3
                text "g042" fault 3
                text "g00" refused 1 0 0
                """);
        edges.edge("Texts", digits, "kinds, glues, strengths and the need", """
                text "k00000" fault 5
                text "l1:00" fault 4
                text "s011" fault 3
                text "n02" fault 2
                """);
        edges.edge("Texts", digits, "the signs beside the digits", """
                text "t/" fault 1
                text "t:" fault 1
                text "n/" fault 1
                text "n:" fault 1
                text "t9/" fault 2
                text "t9" refused 6 9 0
                text "l9/0" fault 2
                text "l9:9" refused 3 9 0
                """);
    }

    private void faultPlaces() {
        String first = "The fault position of a text is the index of its first character that cannot continue such a text,";
        edges.edge("Texts", first, "the first character", """
                text "x" fault 0
                text "K1234" fault 0
                text "1" fault 0
                text "*" fault 0
                text " n3" fault 0
                text "m" fault 0
                text "o" fault 0
                """);
        edges.edge("Texts", first, "in the middle", """
                text "n3;k12x4;n2" fault 6
                text "n3;l17;n2" fault 6
                text "n3;x;n2" fault 3
                """);
        edges.edge("Texts", first, "the last character", """
                text "n3;n2x" fault 5
                text "k1234x" fault 5
                text "l17:0***x" fault 8
                text "g1 " fault 2
                """);
        edges.edge("Texts", first, "of several the first", """
                text "n3;kx;y" fault 4
                text "?n3;kx;y" fault 0
                """);
        edges.edge("Texts", first, "the last of sixty", """
                text "n2;n1;n2;n1;n2;n1;n2;n1;n2;n1;n2;n1;n2;n1;n2;n1;n2;n1;n2;n1?" fault 59
                text "n2;n1;n2;n1;n2;n1;n2;n1;n2;n1;n2;n1;n2;n1;n2;n1;n2;n1;n2;l1*" fault 59
                """);
        edges.edge("Texts", first, "the least and the largest character, and digits of other scripts", """
                append(0) = 1
                commands() throws IllegalArgumentException
                faultPosition() = 0
                type "n"
                append(65535) = 2
                commands() throws IllegalArgumentException
                faultPosition() = 1
                type "n"
                append(1633) = 2
                commands() throws IllegalArgumentException
                faultPosition() = 1
                type "n3"
                append(315) = 3
                type "n2"
                commands() throws IllegalArgumentException
                faultPosition() = 2
                """);
    }

    private void tooEarly() {
        String early = "or the length of the text if it ends too early.";
        edges.edge("Texts", early, "no text", """
                text "" fault 0
                """);
        edges.edge("Texts", early, "after each part of a command", """
                text "k" fault 1
                text "k0" fault 2
                text "k00" fault 3
                text "k000" fault 4
                text "l" fault 1
                text "l1" fault 2
                text "l17" fault 3
                text "l17:" fault 4
                text "t" fault 1
                text "g" fault 1
                text "s" fault 1
                text "s1" fault 2
                text "n" fault 1
                """);
        edges.edge("Texts", early, "after a \";\", and in a later command", """
                text "n3;" fault 3
                text "n3;n" fault 4
                text "n3;l17" fault 6
                """);
        edges.edge("Texts", early, "sixty characters", """
                text "n2;n1;n2;n1;n2;n1;n2;n1;n2;n1;n2;n1;n2;n1;n2;n1;n2;n1;n2;n1;" fault 60
                text "n2;n1;n2;n1;n2;n1;n2;n1;n2;n1;n2;n1;n2;n1;n2;n1;n2;n1;n2;l17" fault 60
                account(2) = 2
                """);
    }

    private void asMethods() {
        String methods = "The commands are carried out as the methods would,";
        edges.edge("Texts", methods, "each command", """
                text "k1212;n1;s23;l8:0;l9:0**;t9;g2" = 7
                account(0) = 1
                account(2) = 1
                strengthOf(2) = 3
                seed() = 8
                account(1) = 3
                account(3) = 4
                account(4) = 2
                account(5) = 1
                """);
        edges.edge("Texts", methods, "each reason", SEEDED + """
                text "k0700" refused 1 0 0
                text "l18:1" refused 3 1 0
                text "l17:0" refused 4 0 0
                text "l19:0" refused 5 1 0
                text "t18" refused 6 18 0
                text "l18:0;t17" refused 7 1 1
                text "n2;g1" refused 8 4 1
                text "n1" refused 9 0 0
                text "k0000;k0000;k0000;k0000;k0000;k0000;k0000;k0000" refused 2 8 7
                """);
    }

    private void allOrNone() {
        String none = "all of them or none.";
        edges.edge("Texts", none, "the first is refused", SEEDED + """
                text "n1;n2;k2222;s33;l18:0;g5" refused 9 0 0
                account(0|1|2) = 1
                """);
        edges.edge("Texts", none, "one in the middle is refused", SEEDED + """
                text "n2;k2222;t17;t17;s33" refused 6 17 3
                account(0|1|2) = 1
                seed() = 17
                """);
        edges.edge("Texts", none, "the last is refused", SEEDED + """
                text "k2222;s33;l18:0;g5;t18;n5;n5" refused 9 0 6
                account(0|1|2|3) = 1
                account(4|5) = 0
                strengthOf(3) = 1
                account(8) = 3
                """);
        edges.edge("Texts", none, "what a command would find is what those before it left", """
                text "k1111;n1;l17:0;l18:0;t18;l18:0" = 6
                account(1) = 2
                account(3) = 3
                """);
    }

    private void append() {
        edges.edge("Promise 27", "Appends a character to the text buffer.", "the least and the largest", """
                append(0) = 1
                append(65535) = 2
                account(9) = 2
                """);
        edges.edge("Promise 27", "Returns the new length of the buffer.", "the first, the sixtieth, and the first again", """
                append(110) = 1
                58 times append(48)
                append(48) = 60
                account(9) = 60
                commands() throws IllegalArgumentException
                append(110) = 1
                """);
        edges.edge("Promise 27", "Throws `IllegalStateException` if the buffer contains 60 characters",
                "the sixty-first", """
                type "%s"
                append(59) throws IllegalStateException
                append(0|65535) throws IllegalStateException
                account(9) = 60
                """.formatted(SIXTY_SIGNS));
        edges.edge("Promise 27", "Throws `IllegalStateException` if the buffer contains 60 characters",
                "the sixty stay and are carried out", SEEDED + """
                type "%s"
                append(59) throws IllegalStateException
                commands() = 8
                append(59) = 1
                """.formatted(SIXTY_SIGNS));
    }

    private void commands() {
        String one = "Carries out the commands in the text buffer, one after the other; if one is refused, none is "
                + "carried out.";
        edges.edge("Promise 28", one, "a later one is refused", SEEDED + """
                text "n2;s13;k0000;n2" refused 9 0 3
                account(0|1|2) = 1
                strengthOf(1) = 1
                """);
        edges.edge("Promise 28", one, "the last of the most is refused", """
                text "n1;n2;n1;n2;n1;n2;n1;n2;n1;n2;n1;n2;n1;n2;n1;n2;n1;n2;n1;n1" refused 9 0 19
                account(2) = 2
                account(8) = 0
                """);
        String empty = "The buffer is empty afterwards, also if an exception is thrown.";
        edges.edge("Promise 28", empty, "carried out, refused, with a fault, full, and empty before", """
                text "n1" = 1
                account(9) = 0
                text "n1" refused 9 0 0
                account(9) = 0
                text "n" fault 1
                account(9) = 0
                text "" fault 0
                account(9) = 0
                text "n2;n1;n2;n1;n2;n1;n2;n1;n2;n1;n2;n1;n2;n1;n2;n1;n2;n1;n2;n1;" fault 60
                account(9) = 0
                append(110) = 1
                """);
        edges.edge("Promise 28", empty, "nothing of it is left in the next text", """
                text "n3;n4;n5" = 3
                text "n2" = 1
                text "n" fault 1
                text "6" fault 0
                account(2) = 2
                """);
        edges.edge("Promise 28", "Returns the number of commands.", "one and twenty", """
                text "n1" = 1
                text "n2;n1;n2;n1;n2;n1;n2;n1;n2;n1;n2;n1;n2;n1;n2;n1;n2;n1;n2;n1" = 20
                """);
    }

    private void commandsThrow() {
        String fault = "Throws `IllegalArgumentException` if the text has a fault";
        edges.edge("Promise 28", fault, "at its first character, in the middle, at its end", """
                text "x" fault 0
                text "n3;kx;n2" fault 4
                text "n3;n" fault 4
                account(2) = 2
                account(8) = 0
                """);
        edges.edge("Promise 28", fault, "an empty buffer, at first and after a call", """
                commands() throws IllegalArgumentException
                text "n3" = 1
                commands() throws IllegalArgumentException
                account(2) = 3
                """);
        edges.edge("Promise 28", fault, "nothing is refused by it", """
                text "n2;x" fault 3
                reason(0|1|2) throws NoSuchElementException
                """);
        String refused = "Throws `UnsupportedOperationException` if a command is refused; the reason is kept";
        edges.edge("Promise 28", refused, "the only one, and the second of three", """
                text "n2" refused 9 0 0
                text "n3;t41;n2" refused 6 41 1
                account(2) = 2
                """);
    }

    private void faultPosition() {
        String latest = "Returns the fault position of the text of the latest call of commands.";
        edges.edge("Promise 29", latest, "a fault after a fault", """
                text "n3;" fault 3
                text "x" fault 0
                faultPosition() = 0
                """);
        edges.edge("Promise 29", latest, "not of the text in the buffer", """
                text "n3;" fault 3
                type "x"
                faultPosition() = 3
                """);
        String none = "Returns the fault position, or -1 if that text had no fault or there was no such call.";
        edges.edge("Promise 29", none, "no call", """
                faultPosition() = -1
                type "x"
                faultPosition() = -1
                """);
        edges.edge("Promise 29", none, "no fault after a fault: carried out and refused", """
                text "x" fault 0
                text "n3" = 1
                faultPosition() = -1
                text "x" fault 0
                text "n3" refused 9 0 0
                faultPosition() = -1
                """);
        edges.edge("Promise 29", none, "at 0 and at 60", """
                text "" fault 0
                text "n2;n1;n2;n1;n2;n1;n2;n1;n2;n1;n2;n1;n2;n1;n2;n1;n2;n1;n2;n1;" fault 60
                """);
        edges.edge("Promise 29", none, "other calls that are refused leave it", """
                text "x" fault 0
                need(2) refused 9 0 0
                need(3) = 2
                undo() = 0
                faultPosition() = 0
                """);
    }

    private void reason() {
        String kept = "Returns a number of the reason that is kept.";
        edges.edge("Promise 30", kept, "the least and the most of each", """
                kind(7, 0, 0, 0) refused 1 0 0
                lay(0, MIN, 0) refused 3 -2147483648 0
                lay(0, MAX, 0) refused 3 2147483647 0
                need(2) refused 9 0 0
                text "n1;n2;n1;n2;n1;n2;n1;n2;n1;n2;n1;n2;n1;n2;n1;n2;n1;n2;n1;n1" refused 9 0 19
                """);
        edges.edge("Promise 30", "Returns the number.", "it stays after what succeeds", """
                text "n1;t41" refused 6 41 1
                need(1) = 2
                reason(0) = 6
                reason(1) = 41
                reason(2) = 1
                """);
        edges.edge("Promise 30", "`what`: 0 for the reason, 1 for its detail, 2 for the index of the command", "each", """
                text "n1;t41" refused 6 41 1
                reason(0) = 6
                reason(1) = 41
                reason(2) = 1
                """);
        edges.edge("Promise 30", "Throws `IllegalArgumentException` if what is not from 0 to 2", "below and above", """
                reason(-1|3|MIN|MAX) throws IllegalArgumentException
                need(2) refused 9 0 0
                reason(-1|3|MIN|MAX) throws IllegalArgumentException
                """);
        edges.edge("Promise 30", "Throws `NoSuchElementException` if nothing was refused",
                "at first, after a success, after a fault", """
                reason(0|1|2) throws NoSuchElementException
                need(3) = 2
                reason(0|1|2) throws NoSuchElementException
                text "x" fault 0
                undo() = 0
                undo() throws IllegalStateException
                reason(0|1|2) throws NoSuchElementException
                """);
    }

    private void line() {
        String line = "Writes a row of the wall, in place of the line before:";
        edges.edge("Promise 31", line, "a shorter one after a longer one", SEEDED + """
                takeOut(17) = 0
                lay(17, 0, 3) = 0
                line(2) shows ...0***...
                line(3) shows .......
                character(7) throws IndexOutOfBoundsException
                """);
        edges.edge("Promise 31", line, "the line stays when the wall changes", SEEDED + """
                line(2) shows ...0...
                lay(16, 0, 3) = 1
                character(2) = .
                character(7) throws IndexOutOfBoundsException
                line(2) shows ..0***0...
                """);
        String place = "for each place \".\" if it is free, or the kind of its brick and for each quarter by which "
                + "it is turned \"*\";";
        edges.edge("Promise 31", place, "the first and the last place", """
                7 times kind(1, 1, 1, 1)
                kind(1, 1, 1, 1) = 7
                lay(0, 7, 3) = 0
                line(0) shows 7***......
                takeOut(0) = 7
                lay(41, 0, 1) = 0
                line(5) shows ......0*
                line(0) shows .......
                """);
        edges.edge("Promise 31", place, "none to three quarters, the kinds 0 to 7", """
                8 times kind(1, 1, 1, 1)
                need(1) = 2
                lay(14, 0, 0) = 0
                lay(15, 1, 1) = 1
                lay(16, 2, 2) = 1
                lay(17, 3, 3) = 1
                lay(18, 5, 0) = 1
                lay(19, 6, 1) = 1
                lay(20, 7, 2) = 1
                line(2) shows 01*2**3***56*7**
                """);
        edges.edge("Promise 31", "as in \"..0**1..\".", "the example", """
                8 times kind(1, 1, 1, 1)
                need(1) = 2
                lay(2, 0, 2) = 0
                lay(3, 1, 0) = 1
                line(0) shows ..0**1...
                """);
    }

    private void lineRefused() {
        edges.edge("Promise 31", "Returns the length of the line.", "the least and the most", """
                kind(1, 1, 1, 1) = 0
                need(1) = 2
                line(0|5) = 7
                lay(0, 0, 3) = 0
                lay(1|2|3|4|5|6, 0, 3) = 1
                line(0) = 28
                character(0) = 0
                character(27) = *
                character(28) throws IndexOutOfBoundsException
                """);
        String none = "Throws `IndexOutOfBoundsException` if there is no such row";
        edges.edge("Promise 31", none, "below and above, and the line stays empty", """
                line(-1|6|MIN|MAX) throws IndexOutOfBoundsException
                character(0) throws IndexOutOfBoundsException
                """);
        edges.edge("Promise 31", none, "the line before stays", SEEDED + """
                line(2) shows ...0...
                line(-1|6|MIN|MAX) throws IndexOutOfBoundsException
                character(3) = 0
                """);
    }

    private void character() {
        edges.edge("Promise 32", "Returns a character of the line, which is empty at first.", "no line", """
                character(0|-1|1|MIN|MAX) throws IndexOutOfBoundsException
                """);
        edges.edge("Promise 32", "Returns the character.", "the first and the last", """
                kind(1, 1, 1, 1) = 0
                lay(0, 0, 1) = 0
                line(0) = 8
                character(0) = 0
                character(1) = *
                character(7) = .
                """);
        edges.edge("Promise 32", "`index`: the index, from 0", "0 and before it", """
                line(0) = 7
                character(0) = .
                character(-1) throws IndexOutOfBoundsException
                """);
        edges.edge("Promise 32", "Throws `IndexOutOfBoundsException` if there is no such index", "below and above", """
                line(0) = 7
                character(6) = .
                character(-1|7|27|28|MIN|MAX) throws IndexOutOfBoundsException
                """);
        edges.edge("Promise 32", "Throws `IndexOutOfBoundsException` if there is no such index",
                "undo and restore leave the line", SEEDED + """
                save() = 1
                line(2) shows ...0...
                undo() = 2
                character(3) = 0
                restore() = 1
                character(6) = .
                character(7) throws IndexOutOfBoundsException
                """);
    }
}
