/** Long runs of calls, the same ones each time, on the class and on a plain telling of the document. */
public final class ModelTest {
    private static final int RUNS = 600;
    private static final int CALLS = 512;

    private final Check check = new Check();
    private long dice;
    private int calls;
    private GluedWall wall;
    private PlainWall plain;

    public static void main(String[] args) {
        ModelTest test = new ModelTest();
        for (int run = 0; run < RUNS; run++) {
            test.run(run);
        }
        test.check.end();
    }

    private void run(int run) {
        dice = 7919L * run + 1;
        wall = new GluedWall();
        plain = new PlainWall();
        calls = 0;
        int glues = 1 + roll(6);
        while (calls < CALLS) {
            if (roll(60) == 0) {
                glues = 1 + roll(6);
            }
            String what = "run " + run + " call " + calls;
            if (roll(5) < 2) {
                change(what, glues);
            } else {
                ask(what);
            }
        }
    }

    private int roll(int sides) {
        dice = dice * 6364136223846793005L + 1442695040888963407L;
        return (int) ((dice >>> 33) % sides);
    }

    /** Seldom a number that is out of range, most of them just so. */
    private int number(int end) {
        int kind = roll(40);
        if (kind == 0) {
            int[] far = {-1, end, end + 1, Integer.MIN_VALUE, Integer.MAX_VALUE};
            return far[roll(far.length)];
        }
        return roll(end);
    }

    private int glue(int glues) {
        return roll(30) == 0 ? number(7) : roll(glues + 1);
    }

    private void change(String what, int glues) {
        int a = number(42);
        switch (roll(16)) {
            case 0, 1 -> {
                int[] g = {glue(glues), glue(glues), glue(glues), glue(glues)};
                same(what + " kind", () -> wall.kind(g[0], g[1], g[2], g[3]), () -> plain.kind(g[0], g[1], g[2], g[3]));
            }
            case 2, 3, 4, 5, 6 -> {
                int place = roll(4) == 0 ? a : freePlaceBeside();
                int brick = roll(4) == 0 ? -1 : brickThatHolds(place);
                int kind = brick < 0 ? number(Math.max(1, plain.account(0))) : brick / 4;
                int turn = brick < 0 ? number(4) : brick % 4;
                same(what + " lay", () -> wall.lay(place, kind, turn), () -> plain.lay(place, kind, turn));
            }
            case 7, 8 -> {
                int place = roll(6) == 0 ? a : placeWithBrick();
                same(what + " takeOut", () -> wall.takeOut(place), () -> plain.takeOut(place));
            }
            case 9 -> {
                int most = roll(4) == 0 ? number(44) : 1 + roll(4);
                same(what + " grow", () -> wall.grow(most), () -> plain.grow(most));
            }
            case 10 -> {
                int glue = 1 + number(6);
                int strength = number(4);
                same(what + " strength", () -> wall.strength(glue, strength), () -> plain.strength(glue, strength));
            }
            case 11 -> {
                int need = roll(3) == 0 ? number(8) : 1 + roll(2);
                same(what + " need", () -> wall.need(need), () -> plain.need(need));
            }
            case 12 -> text(what, glues);
            case 13, 14 -> same(what + " undo", () -> wall.undo(), () -> plain.undo());
            default -> {
                if (roll(2) == 0) {
                    same(what + " save", () -> wall.save(), () -> plain.save());
                } else if (roll(3) == 0) {
                    same(what + " restore", () -> wall.restore(), () -> plain.restore());
                }
            }
        }
    }

    private int placeWithBrick() {
        int from = roll(42);
        for (int step = 0; step < 42; step++) {
            int place = (from + step) % 42;
            if (hasBrick(place)) {
                return place;
            }
        }
        return from;
    }

    /** A free place with a neighbour, as far as the wall has one. */
    private int freePlaceBeside() {
        int from = roll(42);
        for (int step = 0; step < 42; step++) {
            int place = (from + step) % 42;
            boolean hasNeighbour = hasBrick(place - 7) || hasBrick(place + 7)
                    || place % 7 > 0 && hasBrick(place - 1) || place % 7 < 6 && hasBrick(place + 1);
            if (!hasBrick(place) && hasNeighbour) {
                return place;
            }
        }
        return from;
    }

    private boolean hasBrick(int place) {
        return place >= 0 && place < 42 && !Check.answer(() -> plain.brickAt(place, true)).equals(Check.NONE_SUCH);
    }

    private boolean isFree(int place) {
        return place >= 0 && place < 42 && !hasBrick(place);
    }

    private int brickThatHolds(int place) {
        int bricks = 4 * plain.account(0);
        int from = roll(32);
        for (int step = 0; step < bricks && isFree(place); step++) {
            int brick = (from + step) % bricks;
            if (plain.wouldHold(place, brick / 4, brick % 4) >= plain.account(2)) {
                return brick;
            }
        }
        return -1;
    }

    private int somePlace() {
        int kind = roll(8);
        return kind < 4 ? placeWithBrick() : kind < 7 ? freePlaceBeside() : number(42);
    }

    private void text(String what, int glues) {
        StringBuilder text = new StringBuilder();
        int count = 1 + roll(4);
        for (int i = 0; i < count; i++) {
            text.append(i == 0 ? "" : ";").append(command(glues));
        }
        if (roll(4) == 0) {
            String signs = "kltgsn0123456789:;* x";
            text.insert(roll(text.length() + 1), signs.charAt(roll(signs.length())));
        }
        if (roll(12) == 0) {
            text.setLength(roll(text.length() + 1));
        }
        for (int i = 0; i < text.length(); i++) {
            char sign = text.charAt(i);
            same(what + " append", () -> wall.append(sign), () -> plain.append(sign));
        }
        if (roll(8) > 0) {
            same(what + " commands " + text, () -> wall.commands(), () -> plain.commands());
            same(what + " fault", () -> wall.faultPosition(), () -> plain.faultPosition());
        }
    }

    private String command(int glues) {
        switch (roll(10)) {
            case 0:
                return "k" + roll(glues + 1) + roll(glues + 1) + roll(glues + 1) + roll(roll(9) == 0 ? 10 : glues + 1);
            case 1, 2, 3, 4: {
                int place = freePlaceBeside();
                int brick = roll(4) == 0 ? roll(40) : Math.max(0, brickThatHolds(place));
                String digits = place < 10 && roll(2) == 0 ? "0" + place : "" + place;
                return "l" + digits + ":" + brick / 4 + "*".repeat(brick % 4);
            }
            case 5:
                return "t" + (roll(3) == 0 ? roll(100) : placeWithBrick());
            case 6, 7:
                return "g" + roll(roll(9) == 0 ? 100 : 5);
            case 8:
                return "s" + roll(8) + roll(5);
            default:
                return "n" + roll(4);
        }
    }

    private void ask(String what) {
        int a = somePlace();
        int b = number(8);
        int c = number(4);
        int d = number(4);
        boolean isSecond = roll(2) == 0;
        switch (roll(14)) {
            case 0 -> {
                same(what + " glueOf", () -> wall.glueOf(b, c, d), () -> plain.glueOf(b, c, d));
                same(what + " strengthOf", () -> wall.strengthOf(b), () -> plain.strengthOf(b));
            }
            case 1 -> same(what + " brickAt", () -> wall.brickAt(a, isSecond), () -> plain.brickAt(a, isSecond));
            case 2 -> same(what + " seed", () -> wall.seed(), () -> plain.seed());
            case 3 -> {
                same(what + " hold", () -> wall.hold(a), () -> plain.hold(a));
                same(what + " holdAgain", () -> wall.holdAgain(a), () -> plain.holdAgain(a));
            }
            case 4 -> same(what + " wouldHold", () -> wall.wouldHold(a, b, c), () -> plain.wouldHold(a, b, c));
            case 5 -> {
                same(what + " stands", () -> wall.stands(a), () -> plain.stands(a));
                same(what + " fallen", () -> wall.fallen(), () -> plain.fallen());
            }
            case 6 -> same(what + " falls", () -> wall.falls(a), () -> plain.falls(a));
            case 7 -> {
                same(what + " errors", () -> wall.errors(), () -> plain.errors());
                same(what + " errorsAt", () -> wall.errorsAt(a), () -> plain.errorsAt(a));
            }
            case 8 -> {
                same(what + " nextPlace", () -> wall.nextPlace(), () -> plain.nextPlace());
                same(what + " nextBrick", () -> wall.nextBrick(), () -> plain.nextBrick());
            }
            case 9 -> {
                same(what + " choices", () -> wall.choices(a), () -> plain.choices(a));
                same(what + " stuck", () -> wall.stuck(), () -> plain.stuck());
                same(what + " growsTo", () -> wall.growsTo(), () -> plain.growsTo());
            }
            case 10 -> {
                same(what + " inRow", () -> wall.inRow(b, isSecond), () -> plain.inRow(b, isSecond));
                int rank = number(Math.max(1, plain.account(1)));
                same(what + " weakest", () -> wall.weakest(rank), () -> plain.weakest(rank));
            }
            case 11 -> {
                int row = number(6);
                same(what + " line", () -> wall.line(row), () -> plain.line(row));
                same(what + " character", () -> wall.character(b), () -> plain.character(b));
            }
            case 12 -> {
                same(what + " meanHold", () -> wall.meanHold(), () -> plain.meanHold());
                same(what + " standing", () -> wall.standing(), () -> plain.standing());
                same(what + " reason", () -> wall.reason(c), () -> plain.reason(c));
            }
            default -> {
                int which = number(10);
                same(what + " account", () -> wall.account(which), () -> plain.account(which));
            }
        }
    }

    /** Nothing is promised of an object after its last call. */
    private void same(String what, Check.Call asked, Check.Call due) {
        if (calls == CALLS) {
            return;
        }
        calls++;
        check.same(what, Check.answer(due), Check.answer(asked));
    }
}
