/** Promises 27 to 32. */
public final class TextsTest {
    private final Check check = new Check();

    public static void main(String[] args) {
        TextsTest test = new TextsTest();
        test.append();
        test.goodTexts();
        test.faults();
        test.longTexts();
        test.commands();
        test.commandsRefused();
        test.rangesInTexts();
        test.allOrNone();
        test.faultPosition();
        test.reason();
        test.line();
        test.check.end();
    }

    private void append() {
        GluedWall wall = new GluedWall();
        for (int length = 1; length <= 60; length++) {
            char sign = length % 2 == 0 ? (char) 0 : (char) 65535;
            check.due("append " + length, length, () -> wall.append(sign));
        }
        check.due("a 61st", Check.STATE, () -> wall.append('k'));
        check.due("length", 60, () -> wall.account(9));
        check.due("a fault at 0", Check.ARGUMENT, wall::commands);
        check.due("position", 0, wall::faultPosition);
        check.due("empty", 1, () -> wall.append('k'));
        check.due("no change", 0, () -> wall.account(8));
    }

    private static GluedWall wallForTexts() {
        GluedWall wall = new GluedWall();
        wall.kind(1, 1, 1, 1);
        wall.need(1);
        wall.lay(17, 0, 0);
        return wall;
    }

    private void goodTexts() {
        String[] texts = {"k0123", "k6666;k0000", "l18:0", "l18:0*", "l18:0**", "l18:0***", "l18:0*;l19:0;l20:0***",
            "t17", "g1", "g01", "g42", "s12", "s60;s63", "n2", "n6;n1", "l10:0;l3:0;l3:0"};
        int[] due = {1, 2, 1, 1, 1, 1, 3, 1, 1, 1, 1, 1, 2, 1, 2, -1};
        for (int i = 0; i < texts.length; i++) {
            GluedWall wall = wallForTexts();
            String text = texts[i];
            check.due(text, due[i] < 0 ? Check.REFUSED : due[i], () -> Check.run(wall, text));
            check.due(text + ": fault", -1, wall::faultPosition);
            check.due(text + ": buffer", 0, () -> wall.account(9));
        }
    }

    private void faults() {
        String[] texts = {"", ";", "x", " k1234", "K1234", "k", "k1", "k123", "k123;", "k12345", "k12a4", "k-123",
            "l", "lx", "l:0", "l3", "l3:", "l17", "l173:0", "l17:", "l17:*", "l17:00", "l17:0****", "l17:0*0", "l17:0;",
            "l17:0; l18:0", "l17 :0", "t", "t*", "t171", "t1;", "t1;;t2", "g", "g123", "g1x", "g;", "s", "s1", "s123",
            "s1;", "s1x", "n", "n12", "nx", "n1;n", "n1;x", "n1,n2", "n1;k1234;l01:0*;t1;g1;s11;n9z", "k1\u01312"
            , "t\u0661", "n1;\uff1b"};
        int[] due = {0, 0, 0, 0, 0, 1, 2, 4, 4, 5, 3, 1,
            1, 1, 1, 2, 3, 3, 3, 4, 4, 5, 8, 6, 6,
            6, 3, 1, 1, 3, 3, 3, 1, 3, 2, 1, 1, 2, 3,
            2, 2, 1, 2, 1, 4, 3, 2, 28, 2, 1, 3};
        for (int i = 0; i < texts.length; i++) {
            GluedWall wall = wallForTexts();
            String text = texts[i];
            check.due("'" + text + "'", Check.ARGUMENT, () -> Check.run(wall, text));
            check.due("'" + text + "': position", due[i], wall::faultPosition);
            check.due("'" + text + "': buffer", 0, () -> wall.account(9));
            check.due("'" + text + "': changes", 3, () -> wall.account(8));
            check.due("'" + text + "': no reason", Check.NONE_SUCH, () -> wall.reason(0));
        }
        check.same("each text has its position", texts.length, due.length);
    }

    private void longTexts() {
        StringBuilder twenty = new StringBuilder("n2");
        for (int i = 1; i < 20; i++) {
            twenty.append(i % 2 == 0 ? ";n2" : ";n1");
        }
        GluedWall wall = wallForTexts();
        check.due("twenty commands", 20, () -> Check.run(wall, twenty.toString()));
        check.due("one change", 4, () -> wall.account(8));
        check.due("sixty signs, a ';' at the end", Check.ARGUMENT, () -> Check.run(wall, twenty + ";"));
        check.due("too early", 60, wall::faultPosition);
        String full = "l18:0***;l19:0***;l20:0***;l11:0***;l12:0***;l13:0***;t13;g1";
        check.same("sixty signs", 60, full.length());
        check.due("sixty signs", 8, () -> Check.run(wall, full));
        check.due("a full text that ends too early", Check.ARGUMENT,
                () -> Check.run(wall, full.substring(0, 56) + ";n1;"));
        check.due("at its length", 60, wall::faultPosition);
    }

    private void commands() {
        GluedWall wall = new GluedWall();
        check.due("a wall by text", 6, () -> Check.run(wall, "k1212;n1;s23;l08:0;l9:0**;g3"));
        check.due("kinds", 1, () -> wall.account(0));
        check.due("glue", 2, () -> wall.glueOf(0, 0, 1));
        check.due("need", 1, () -> wall.account(2));
        check.due("strength", 3, () -> wall.strengthOf(2));
        check.due("seed", 8, wall::seed);
        check.due("turn", 2, () -> wall.brickAt(9, true));
        check.due("bricks", 5, () -> wall.account(1));
        check.due("grown", 3, () -> wall.account(4));
        check.due("laid", 5, () -> wall.account(3));
        check.due("one change", 1, () -> wall.account(8));
        check.due("take out by text", 4, () -> Check.run(new GluedWall(), "k1111;l8:0;t08;l9:0"));
    }

    /** The reasons in texts are those of the methods, each with the index of its command. */
    private void commandsRefused() {
        String[] texts = {"n3;k1117", "l42:0", "l17:0;l18:0;l18:8", "g1;l17:0", "l18:0;t17", "n2;l19:0", "t0", "n3;n3", "s11",
            "n2;g1", "n3;s20;g1;t17"};
        int[][] due = {{1, 0, 1}, {1, 0, 0}, {4, 0, 0}, {4, 0, 1}, {7, 1, 1}, {5, 2, 1}, {6, 0, 0}, {9, 0, 1}, {9, 0, 0},
            {8, 4, 1}, {8, 4, 2}};
        for (int i = 0; i < texts.length; i++) {
            GluedWall wall = wallForTexts();
            String text = texts[i];
            check.refusedIn(text, wall, due[i][0], due[i][1], due[i][2], () -> Check.run(wall, text));
            check.due(text + ": fault", -1, wall::faultPosition);
            check.due(text + ": buffer", 0, () -> wall.account(9));
            check.due(text + ": need", 1, () -> wall.account(2));
            check.due(text + ": bricks", 1, () -> wall.account(1));
            check.due(text + ": laid", 1, () -> wall.account(3));
            check.due(text + ": changes", 3, () -> wall.account(8));
        }
        GluedWall wall = wallForTexts();
        check.refusedIn("no such kind", wall, 3, 1, 1, () -> Check.run(wall, "l18:0;l19:1"));
        check.refusedIn("no such kind, 9", wall, 3, 9, 0, () -> Check.run(wall, "l17:9"));
        check.refusedIn("a ninth kind", wall, 2, 8, 7,
                () -> Check.run(wall, "k0000;k0000;k0000;k0000;k0000;k0000;k0000;k0000"));
        check.refused("a call of its own has the index 0", wall, 9, 0, () -> wall.need(1));
    }

    /** A digit that is no glue, strength, need or number is no fault of the text. */
    private void rangesInTexts() {
        String[] texts = {"k7000", "k0900", "k0080", "k0007", "l42:0", "l99:0", "t42", "t99", "g0", "g00", "g43", "g99",
            "s01", "s71", "s14", "s19", "n0", "n7", "n9"};
        for (String text : texts) {
            GluedWall wall = wallForTexts();
            check.refusedIn(text, wall, 1, 0, 0, () -> Check.run(wall, text));
            check.refusedIn("n2;" + text, wall, 1, 0, 1, () -> Check.run(wall, "n2;" + text));
        }
        GluedWall wall = wallForTexts();
        check.due("edges", 6, () -> Check.run(wall, "g42;t41;l41:0;s13;n6;k6666"));
        check.due("bricks", 42, () -> wall.account(1));
    }

    private void allOrNone() {
        GluedWall wall = wallForTexts();
        check.due("the last one is refused", Check.REFUSED, () -> Check.run(wall, "k2222;s33;l18:0;g5;t18;n5;n5"));
        check.due("kinds", 1, () -> wall.account(0));
        check.due("strength", 1, () -> wall.strengthOf(3));
        check.due("bricks", 1, () -> wall.account(1));
        check.due("laid", 1, () -> wall.account(3));
        check.due("grown", 0, () -> wall.account(4));
        check.due("taken", 0, () -> wall.account(5));
        check.due("need", 1, () -> wall.account(2));
        check.due("changes", 3, () -> wall.account(8));
        GluedWall alone = wallForTexts();
        check.due("the seed stays", Check.REFUSED, () -> Check.run(alone, "t17;l0:0;t17"));
        check.due("seed", 17, alone::seed);
        check.due("a seed by text", 2, () -> Check.run(alone, "t17;l41:0**"));
        check.due("seed", 41, alone::seed);
        check.due("undone as one", 3, alone::undo);
        check.due("seed", 17, alone::seed);
    }

    private void faultPosition() {
        GluedWall wall = wallForTexts();
        check.due("no call", -1, wall::faultPosition);
        check.due("fault", Check.ARGUMENT, () -> Check.run(wall, "n2;n"));
        check.due("position", 4, wall::faultPosition);
        Check.write(wall, "n2");
        check.due("of the latest call, not of the buffer", 4, wall::faultPosition);
        check.due("no fault", 1, wall::commands);
        check.due("no fault", -1, wall::faultPosition);
        check.due("empty text", Check.ARGUMENT, wall::commands);
        check.due("at 0", 0, wall::faultPosition);
        check.due("refused, no fault", Check.REFUSED, () -> Check.run(wall, "n2"));
        check.due("no fault", -1, wall::faultPosition);
        check.due("fault", Check.ARGUMENT, () -> Check.run(wall, "?"));
        wall.undo();
        check.due("undo lets it be", 0, wall::faultPosition);
    }

    private void reason() {
        GluedWall wall = wallForTexts();
        check.due("nothing was refused", Check.NONE_SUCH, () -> wall.reason(0));
        check.due("nothing was refused", Check.NONE_SUCH, () -> wall.reason(2));
        for (int what : new int[] {Integer.MIN_VALUE, -1, 3, Integer.MAX_VALUE}) {
            check.due("what " + what, Check.ARGUMENT, () -> wall.reason(what));
        }
        check.refusedIn("refused", wall, 4, 0, 2, () -> Check.run(wall, "n3;n1;l17:0"));
        wall.need(3);
        wall.undo();
        check.due("stays after calls that succeed", 4, () -> wall.reason(0));
        check.due("index stays", 2, () -> wall.reason(2));
        check.due("a fault", Check.ARGUMENT, () -> Check.run(wall, "n"));
        check.due("no exception but a refusal changes it", 2, () -> wall.reason(2));
        check.due("what 3", Check.ARGUMENT, () -> wall.reason(3));
        check.refused("the latest counts", wall, 6, 7, () -> wall.takeOut(7));
    }

    private void line() {
        GluedWall wall = wallForTexts();
        wall.kind(1, 1, 1, 1);
        check.due("no line at first", Check.BOUNDS, () -> wall.character(0));
        check.due("row 2", 7, () -> wall.line(2));
        check.due("sign", '.', () -> wall.character(2));
        check.due("sign", '0', () -> wall.character(3));
        check.due("behind it", Check.BOUNDS, () -> wall.character(7));
        check.due("before it", Check.BOUNDS, () -> wall.character(-1));
        check.due("far", Check.BOUNDS, () -> wall.character(Integer.MAX_VALUE));
        check.due("far", Check.BOUNDS, () -> wall.character(Integer.MIN_VALUE));
        for (int row : new int[] {Integer.MIN_VALUE, -1, 6, 7, Integer.MAX_VALUE}) {
            check.due("row " + row, Check.BOUNDS, () -> wall.line(row));
        }
        check.due("the line stays", '0', () -> wall.character(3));
        wall.lay(18, 1, 2);
        wall.lay(16, 0, 3);
        check.due("the line stays, the wall does not", '.', () -> wall.character(4));
        check.due("turned", "..0***01**..", () -> Check.line(wall, 2));
        check.due("shorter", ".......", () -> Check.line(wall, 1));
        check.due("nothing is left of the longer one", Check.BOUNDS, () -> wall.character(7));
        wall.undo();
        check.due("one undone", "...01**..", () -> Check.line(wall, 2));
        GluedWall full = wallForTexts();
        full.takeOut(17);
        full.lay(0, 0, 3);
        for (int place = 1; place < 7; place++) {
            full.lay(place, 0, 3);
        }
        check.due("the longest", 28, () -> full.line(0));
        check.due("its last sign", '*', () -> full.character(27));
        check.due("behind it", Check.BOUNDS, () -> full.character(28));
    }
}
