import java.util.ArrayDeque;
import java.util.ArrayList;
import java.util.Comparator;
import java.util.Deque;
import java.util.List;
import java.util.Map;
import java.util.NoSuchElementException;
import java.util.TreeMap;
import java.util.regex.Matcher;
import java.util.regex.Pattern;

/** The document told once more, by other means than the class has: with the Java library, and without any thrift. */
final class PlainWall {
    private static final Pattern TEXT = textPattern();

    /** A brick knows its glues as it is turned. */
    private record Brick(int kind, int turn, List<Integer> glues) {
    }

    /** A place is a row and a column; sides are asked for by the step that they are on. */
    private record Place(int row, int column) {
        static Place of(int number) {
            return new Place(number / 7, number % 7);
        }

        int number() {
            return 7 * row + column;
        }

        List<Place> around() {
            return List.of(new Place(row - 1, column), new Place(row, column + 1), new Place(row + 1, column),
                    new Place(row, column - 1));
        }
    }

    private static final class State {
        List<List<Integer>> kinds = new ArrayList<>();
        Map<Integer, Integer> strengths = new TreeMap<>(Map.of(0, 0, 1, 1, 2, 1, 3, 1, 4, 1, 5, 1, 6, 1));
        Map<Integer, Brick> bricks = new TreeMap<>();
        int need = 2;
        Integer seed = null;
        int laid = 0;
        int grown = 0;
        int taken = 0;

        State copy() {
            State copy = new State();
            copy.kinds = new ArrayList<>(kinds);
            copy.strengths = new TreeMap<>(strengths);
            copy.bricks = new TreeMap<>(bricks);
            copy.need = need;
            copy.seed = seed;
            copy.laid = laid;
            copy.grown = grown;
            copy.taken = taken;
            return copy;
        }

        Brick at(Place place) {
            boolean inside = place.row >= 0 && place.row < 6 && place.column >= 0 && place.column < 7;
            return inside ? bricks.get(place.number()) : null;
        }

        Brick made(int kind, int turn) {
            List<Integer> glues = new ArrayList<>(kinds.get(kind));
            for (int quarter = 0; quarter < turn; quarter++) {
                glues.add(0, glues.remove(3));
            }
            return new Brick(kind, turn, glues);
        }

        /** For each neighbour the two glues that meet, the own one first. */
        List<int[]> meetings(Brick brick, int number) {
            List<int[]> all = new ArrayList<>();
            List<Place> around = Place.of(number).around();
            for (int side = 0; side < 4; side++) {
                Brick other = at(around.get(side));
                if (other != null) {
                    all.add(new int[] {brick.glues.get(side), other.glues.get((side + 2) % 4)});
                }
            }
            return all;
        }

        int holdOf(Brick brick, int number) {
            return meetings(brick, number).stream().mapToInt(two -> two[0] == two[1] ? strengths.get(two[0]) : 0).sum();
        }

        int errorsOf(Brick brick, int number) {
            return (int) meetings(brick, number).stream().filter(two -> two[0] != two[1] && two[0] * two[1] != 0).count();
        }

        boolean joined(int number, int other) {
            State two = new State();
            two.strengths = strengths;
            two.bricks.put(other, bricks.get(other));
            return two.holdOf(bricks.get(number), number) > 0;
        }

        /** Goes on joining bricks to those that stand until none is added. */
        List<Integer> standing() {
            List<Integer> all = new ArrayList<>();
            if (seed == null) {
                return all;
            }
            all.add(seed);
            boolean isMore = true;
            while (isMore) {
                isMore = false;
                for (int number : bricks.keySet()) {
                    if (!all.contains(number) && all.stream().anyMatch(other -> joined(number, other))) {
                        all.add(number);
                        isMore = true;
                    }
                }
            }
            return all;
        }

        int falling(int number) {
            List<Integer> now = standing();
            if (!now.contains(number)) {
                return 0;
            }
            State without = copy();
            without.bricks.remove(number);
            if (seed == number) {
                without.seed = null;
            }
            return now.size() - 1 - without.standing().size();
        }

        List<Brick> fitting(int number) {
            List<Brick> all = new ArrayList<>();
            for (int kind = 0; kind < kinds.size(); kind++) {
                for (int turn = 0; turn < 4; turn++) {
                    Brick brick = made(kind, turn);
                    if (holdOf(brick, number) >= need && errorsOf(brick, number) == 0) {
                        all.add(brick);
                    }
                }
            }
            return all;
        }

        int next() {
            for (int number = 0; number < 42; number++) {
                if (!bricks.containsKey(number) && !fitting(number).isEmpty()) {
                    return number;
                }
            }
            return -1;
        }

        Brick best(int number) {
            return fitting(number).stream().max(Comparator.<Brick>comparingInt(brick -> holdOf(brick, number))
                    .thenComparingInt(brick -> -brick.kind).thenComparingInt(brick -> -brick.turn)).orElseThrow();
        }

        int grow(int most) {
            int count = 0;
            for (int number = next(); number >= 0 && count < most; number = next()) {
                bricks.put(number, best(number));
                laid++;
                grown++;
                count++;
            }
            return count;
        }

        int stuck() {
            int count = 0;
            for (int number = 0; number < 42; number++) {
                boolean hasNeighbour = Place.of(number).around().stream().anyMatch(place -> at(place) != null);
                if (!bricks.containsKey(number) && hasNeighbour && fitting(number).isEmpty()) {
                    count++;
                }
            }
            return count;
        }

        int allHolds() {
            return bricks.keySet().stream().mapToInt(number -> holdOf(bricks.get(number), number)).sum();
        }
    }

    /** What is refused is known by this alone until the call is over. */
    private static final class Refusal extends RuntimeException {
        private static final long serialVersionUID = 1L;
        private final int number;
        private final int detail;

        Refusal(int number, int detail) {
            this.number = number;
            this.detail = detail;
        }
    }

    private interface Change {
        int apply(State state);
    }

    private State state = new State();
    private State saved = null;
    private final Deque<State> history = new ArrayDeque<>();
    private int[] reason = null;
    private String buffer = "";
    private int fault = -1;
    private String line = "";

    int kind(int above, int right, int below, int left) {
        return change(state -> kind(state, List.of(above, right, below, left)));
    }

    int lay(int place, int kind, int turn) {
        return change(state -> lay(state, place, kind, turn));
    }

    int takeOut(int place) {
        return change(state -> takeOut(state, place));
    }

    int grow(int bricks) {
        return change(state -> grow(state, bricks));
    }

    int strength(int glue, int strength) {
        return change(state -> strength(state, glue, strength));
    }

    int need(int need) {
        return change(state -> need(state, need));
    }

    int glueOf(int kind, int turn, int side) {
        bounds(kind, state.kinds.size());
        argument(turn, 4);
        argument(side, 4);
        return state.made(kind, turn).glues.get(side);
    }

    int strengthOf(int glue) {
        argument(glue, 7);
        return state.strengths.get(glue);
    }

    int brickAt(int place, boolean isTurn) {
        Brick brick = brick(place);
        return isTurn ? brick.turn : brick.kind;
    }

    int seed() {
        exists(state.seed != null);
        return state.seed;
    }

    int hold(int place) {
        return state.holdOf(brick(place), place);
    }

    int holdAgain(int place) {
        return hold(place);
    }

    int wouldHold(int place, int kind, int turn) {
        bounds(place, 42);
        bounds(kind, state.kinds.size());
        argument(turn, 4);
        exists(!state.bricks.containsKey(place));
        return state.holdOf(state.made(kind, turn), place);
    }

    boolean stands(int place) {
        brick(place);
        return state.standing().contains(place);
    }

    int fallen() {
        return state.bricks.size() - state.standing().size();
    }

    int falls(int place) {
        brick(place);
        return state.falling(place);
    }

    int errors() {
        return state.bricks.keySet().stream().mapToInt(this::errorsAt).sum() / 2;
    }

    int errorsAt(int place) {
        return state.errorsOf(brick(place), place);
    }

    int nextPlace() {
        exists(state.next() >= 0);
        return state.next();
    }

    int nextBrick() {
        Brick brick = state.best(nextPlace());
        return 4 * brick.kind + brick.turn;
    }

    int choices(int place) {
        bounds(place, 42);
        exists(!state.bricks.containsKey(place));
        return state.fitting(place).size();
    }

    int stuck() {
        return state.stuck();
    }

    int growsTo() {
        State grown = state.copy();
        grown.grow(42);
        return grown.bricks.size();
    }

    int inRow(int row, boolean isColumn) {
        bounds(row, isColumn ? 7 : 6);
        return (int) state.bricks.keySet().stream().filter(number -> (isColumn ? number % 7 : number / 7) == row).count();
    }

    int weakest(int place) {
        List<Integer> order = new ArrayList<>(state.bricks.keySet());
        order.sort(Comparator.<Integer>comparingInt(this::hold).thenComparingInt(number -> number));
        exists(place >= 0 && place < order.size());
        return order.get(place);
    }

    int append(char character) {
        if (buffer.length() == 60) {
            throw new IllegalStateException();
        }
        buffer += character;
        return buffer.length();
    }

    int commands() {
        String text = buffer;
        buffer = "";
        fault = faultOf(text);
        if (fault >= 0) {
            throw new IllegalArgumentException();
        }
        String[] all = text.split(";");
        State trial = state.copy();
        for (int index = 0; index < all.length; index++) {
            try {
                command(trial, all[index]);
            } catch (Refusal refusal) {
                reason = new int[] {refusal.number, refusal.detail, index};
                throw new UnsupportedOperationException();
            }
        }
        keep();
        state = trial;
        return all.length;
    }

    int faultPosition() {
        return fault;
    }

    int reason(int what) {
        argument(what, 3);
        exists(reason != null);
        return reason[what];
    }

    int line(int row) {
        bounds(row, 6);
        StringBuilder text = new StringBuilder();
        for (int column = 0; column < 7; column++) {
            Brick brick = state.at(new Place(row, column));
            text.append(brick == null ? "." : brick.kind + "*".repeat(brick.turn));
        }
        line = text.toString();
        return line.length();
    }

    char character(int index) {
        bounds(index, line.length());
        return line.charAt(index);
    }

    double meanHold() {
        some();
        return (double) state.allHolds() / (double) state.bricks.size();
    }

    float standing() {
        some();
        return (float) state.standing().size() / (float) state.bricks.size();
    }

    int account(int what) {
        argument(what, 10);
        int pairs = state.bricks.keySet().stream()
                .mapToInt(number -> state.meetings(state.bricks.get(number), number).size()).sum() / 2;
        int[] all = {state.kinds.size(), state.bricks.size(), state.need, state.laid, state.grown, state.taken,
            state.allHolds(), pairs, history.size(), buffer.length()};
        return all[what];
    }

    int undo() {
        if (history.isEmpty()) {
            throw new IllegalStateException();
        }
        state = history.pop();
        return history.size();
    }

    int save() {
        saved = state.copy();
        return saved.bricks.size();
    }

    int restore() {
        if (saved == null) {
            throw new IllegalStateException();
        }
        state = saved.copy();
        history.clear();
        return state.bricks.size();
    }

    private int change(Change change) {
        State trial = state.copy();
        int answer;
        try {
            answer = change.apply(trial);
        } catch (Refusal refusal) {
            reason = new int[] {refusal.number, refusal.detail, 0};
            throw new UnsupportedOperationException();
        }
        keep();
        state = trial;
        return answer;
    }

    private void keep() {
        history.push(state);
        if (history.size() > 8) {
            history.removeLast();
        }
    }

    private static void command(State state, String text) {
        String rest = text.substring(1);
        switch (text.charAt(0)) {
            case 'k' -> kind(state, rest.chars().mapToObj(sign -> sign - '0').toList());
            case 'l' -> {
                String[] parts = rest.split(":");
                lay(state, Integer.parseInt(parts[0]), parts[1].charAt(0) - '0', parts[1].length() - 1);
            }
            case 't' -> takeOut(state, Integer.parseInt(rest));
            case 'g' -> grow(state, Integer.parseInt(rest));
            case 's' -> strength(state, rest.charAt(0) - '0', rest.charAt(1) - '0');
            default -> need(state, Integer.parseInt(rest));
        }
    }

    private static int kind(State state, List<Integer> glues) {
        refuseIf(glues.stream().anyMatch(glue -> glue < 0 || glue > 6), 1, 0);
        refuseIf(state.kinds.size() == 8, 2, 8);
        state.kinds.add(glues);
        return state.kinds.size() - 1;
    }

    private static int lay(State state, int place, int kind, int turn) {
        refuseIf(place < 0 || place > 41 || turn < 0 || turn > 3, 1, 0);
        refuseIf(kind < 0 || kind >= state.kinds.size(), 3, kind);
        Brick there = state.bricks.get(place);
        refuseIf(there != null, 4, there == null ? 0 : there.kind);
        Brick brick = state.made(kind, turn);
        int hold = state.seed == null ? 0 : state.holdOf(brick, place);
        refuseIf(state.seed != null && hold < state.need, 5, state.need - hold);
        state.bricks.put(place, brick);
        state.laid++;
        state.seed = state.seed == null ? Integer.valueOf(place) : state.seed;
        return hold;
    }

    private static int takeOut(State state, int place) {
        refuseIf(place < 0 || place > 41, 1, 0);
        refuseIf(!state.bricks.containsKey(place), 6, place);
        int falling = state.falling(place);
        refuseIf(falling != 0, 7, falling);
        state.taken++;
        if (state.seed != null && state.seed == place) {
            state.seed = null;
        }
        return state.bricks.remove(place).kind;
    }

    private static int grow(State state, int bricks) {
        refuseIf(bricks < 1 || bricks > 42, 1, 0);
        refuseIf(state.next() < 0, 8, state.stuck());
        return state.grow(bricks);
    }

    private static int strength(State state, int glue, int strength) {
        refuseIf(glue < 1 || glue > 6 || strength < 0 || strength > 3, 1, 0);
        refuseIf(state.strengths.get(glue) == strength, 9, 0);
        return state.strengths.put(glue, strength);
    }

    private static int need(State state, int need) {
        refuseIf(need < 1 || need > 6, 1, 0);
        refuseIf(state.need == need, 9, 0);
        int earlier = state.need;
        state.need = need;
        return earlier;
    }

    private static void refuseIf(boolean isSo, int number, int detail) {
        if (isSo) {
            throw new Refusal(number, detail);
        }
    }

    private Brick brick(int place) {
        bounds(place, 42);
        exists(state.bricks.containsKey(place));
        return state.bricks.get(place);
    }

    private void some() {
        if (state.bricks.isEmpty()) {
            throw new ArithmeticException();
        }
    }

    private static void bounds(int number, int end) {
        if (number < 0 || number >= end) {
            throw new IndexOutOfBoundsException();
        }
    }

    private static void argument(int number, int end) {
        if (number < 0 || number >= end) {
            throw new IllegalArgumentException();
        }
    }

    private static void exists(boolean isSo) {
        if (!isSo) {
            throw new NoSuchElementException();
        }
    }

    private static Pattern textPattern() {
        String command = "(k[0-9]{4}|l[0-9]{1,2}:[0-9]\\*{0,3}|t[0-9]{1,2}|g[0-9]{1,2}|s[0-9]{2}|n[0-9])";
        return Pattern.compile(command + "(;" + command + ")*");
    }

    /** A start of a text can be continued if the pattern ran out of characters before it ran into a wrong one. */
    private static int faultOf(String text) {
        for (int length = 1; length <= text.length(); length++) {
            Matcher matcher = TEXT.matcher(text.substring(0, length));
            if (!matcher.matches() && !matcher.hitEnd()) {
                return length - 1;
            }
        }
        return TEXT.matcher(text).matches() ? -1 : text.length();
    }
}
