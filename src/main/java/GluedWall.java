import java.util.NoSuchElementException;

/** A wall of bricks that hold by glue; the document's promises are told by their numbers. */
public final class GluedWall {
    private static final int NONE = -1;
    private static final int ROWS = 6;
    private static final int COLUMNS = 7;
    private static final int PLACES = ROWS * COLUMNS;
    private static final int SIDES = 4;
    private static final int TURNS = 4;
    private static final int RIGHT = 1;
    private static final int BELOW = 2;
    private static final int KINDS_MOST = 8;
    private static final int BRICKS_MOST = KINDS_MOST * TURNS;
    private static final int GLUE_MOST = 6;
    private static final int STRENGTH_MOST = 3;
    private static final int NEED_MOST = 6;
    private static final int HOLD_MOST = SIDES * STRENGTH_MOST;
    private static final int SIGNS_MOST = 60;
    private static final int COMMANDS_MOST = SIGNS_MOST / 2;
    private static final int NUMBERS = 4;
    private static final int LINE_MOST = COLUMNS * TURNS;
    private static final int CHANGES_MOST = 8;

    private static final int OUT_OF_RANGE = 1;
    private static final int TOO_MANY_KINDS = 2;
    private static final int NO_SUCH_KIND = 3;
    private static final int PLACE_TAKEN = 4;
    private static final int TOO_LITTLE_HOLD = 5;
    private static final int PLACE_FREE = 6;
    private static final int OTHERS_FALL = 7;
    private static final int STALLED = 8;
    private static final int SO_ALREADY = 9;

    private final Wall wall = new Wall();
    private final Wall before = new Wall();
    private final Wall snapshot = new Wall();
    private boolean hasSnapshot = false;
    private final History history = new History();
    private final Footing footing = new Footing();
    private final Growth growth = new Growth();
    private final Mason mason = new Mason(footing, growth);
    private int refusedCommand = 0;
    private final Text text = new Text();
    private int faultIndex = NONE;
    private final char[] lineSigns = new char[LINE_MOST];
    private int lineLength = 0;

    /** Promise 1. */
    public GluedWall() {
    }

    /** Promise 2. */
    public int kind(int above, int right, int below, int left) throws UnsupportedOperationException {
        before.copyFrom(wall);
        int number = settled(mason.tellKind(wall, above, right, below, left));
        if (number == NONE) {
            throw new UnsupportedOperationException("the kind is refused");
        }
        return number;
    }

    /** Promise 3. */
    public int lay(int place, int kind, int turn) throws UnsupportedOperationException {
        before.copyFrom(wall);
        int held = settled(mason.layBrick(wall, place, kind, turn));
        if (held == NONE) {
            throw new UnsupportedOperationException("the brick is refused");
        }
        return held;
    }

    /** Promise 4. */
    public int takeOut(int place) throws UnsupportedOperationException {
        before.copyFrom(wall);
        int kind = settled(mason.takeBrick(wall, place));
        if (kind == NONE) {
            throw new UnsupportedOperationException("the brick stays");
        }
        return kind;
    }

    /** Promise 5. */
    public int grow(int bricks) throws UnsupportedOperationException {
        before.copyFrom(wall);
        int grown = settled(mason.growBricks(wall, bricks));
        if (grown == NONE) {
            throw new UnsupportedOperationException("nothing grows");
        }
        return grown;
    }

    /** Promise 6. */
    public int strength(int glue, int strength) throws UnsupportedOperationException {
        before.copyFrom(wall);
        int earlier = settled(mason.setStrength(wall, glue, strength));
        if (earlier == NONE) {
            throw new UnsupportedOperationException("the strength is refused");
        }
        return earlier;
    }

    /** Promise 7. */
    public int need(int need) throws UnsupportedOperationException {
        before.copyFrom(wall);
        int earlier = settled(mason.setNeed(wall, need));
        if (earlier == NONE) {
            throw new UnsupportedOperationException("the need is refused");
        }
        return earlier;
    }

    /** Promise 8. */
    public int glueOf(int kind, int turn, int side) throws IndexOutOfBoundsException, IllegalArgumentException {
        if (!wall.hasKind(kind)) {
            throw new IndexOutOfBoundsException("no such kind");
        }
        if (!isTurnOrSide(turn) || !isTurnOrSide(side)) {
            throw new IllegalArgumentException("no such turn or side");
        }
        return wall.glueOn(brickOf(kind, turn), side);
    }

    /** Promise 9. */
    public int strengthOf(int glue) throws IllegalArgumentException {
        if (glue < 0 || glue > GLUE_MOST) {
            throw new IllegalArgumentException("no such glue");
        }
        return wall.strengths[glue];
    }

    /** Promise 10. */
    public int brickAt(int place, boolean isTurn) throws IndexOutOfBoundsException, NoSuchElementException {
        if (!isPlace(place)) {
            throw new IndexOutOfBoundsException("no such place");
        }
        int brick = wall.brickOn(place);
        if (brick == NONE) {
            throw new NoSuchElementException("the place is free");
        }
        return isTurn ? turnOf(brick) : kindOf(brick);
    }

    /** Promise 11. */
    public int seed() throws NoSuchElementException {
        if (wall.seedPlace == NONE) {
            throw new NoSuchElementException("there is no seed");
        }
        return wall.seedPlace;
    }

    /** Promise 12. */
    public int hold(int place) throws IndexOutOfBoundsException, NoSuchElementException {
        if (!isPlace(place)) {
            throw new IndexOutOfBoundsException("no such place");
        }
        int brick = wall.brickOn(place);
        if (brick == NONE) {
            throw new NoSuchElementException("the place is free");
        }
        return wall.holdFor(brick, place);
    }

    /** Promise 13. */
    public int holdAgain(int place) throws IndexOutOfBoundsException, NoSuchElementException {
        if (!isPlace(place)) {
            throw new IndexOutOfBoundsException("no such place");
        }
        if (wall.isFree(place)) {
            throw new NoSuchElementException("the place is free");
        }
        return (wall.allHolds(NONE) - wall.allHolds(place)) / 2;
    }

    /** Promise 14. */
    public int wouldHold(int place, int kind, int turn)
            throws IndexOutOfBoundsException, IllegalArgumentException, NoSuchElementException {
        if (!isPlace(place) || !wall.hasKind(kind)) {
            throw new IndexOutOfBoundsException("no such place or kind");
        }
        if (!isTurnOrSide(turn)) {
            throw new IllegalArgumentException("no such turn");
        }
        if (!wall.isFree(place)) {
            throw new NoSuchElementException("the place has a brick");
        }
        return wall.holdFor(brickOf(kind, turn), place);
    }

    /** Promise 15. */
    public boolean stands(int place) throws IndexOutOfBoundsException, NoSuchElementException {
        if (!isPlace(place)) {
            throw new IndexOutOfBoundsException("no such place");
        }
        if (wall.isFree(place)) {
            throw new NoSuchElementException("the place is free");
        }
        footing.countWithout(wall, NONE);
        return footing.isReached(place);
    }

    /** Promise 16. */
    public int fallen() {
        return wall.brickCount() - footing.countWithout(wall, NONE);
    }

    /** Promise 17. */
    public int falls(int place) throws IndexOutOfBoundsException, NoSuchElementException {
        if (!isPlace(place)) {
            throw new IndexOutOfBoundsException("no such place");
        }
        if (wall.isFree(place)) {
            throw new NoSuchElementException("the place is free");
        }
        return footing.fallingWithout(wall, place);
    }

    /** Promise 18. */
    public int errors() {
        return wall.errorPairs();
    }

    /** Promise 19. */
    public int errorsAt(int place) throws IndexOutOfBoundsException, NoSuchElementException {
        if (!isPlace(place)) {
            throw new IndexOutOfBoundsException("no such place");
        }
        if (wall.isFree(place)) {
            throw new NoSuchElementException("the place is free");
        }
        return wall.errorsOf(place);
    }

    /** Promise 20. */
    public int nextPlace() throws NoSuchElementException {
        if (!growth.findFrom(wall, 0)) {
            throw new NoSuchElementException("the wall is stalled");
        }
        return growth.foundPlace;
    }

    /** Promise 21. */
    public int nextBrick() throws NoSuchElementException {
        if (!growth.findFrom(wall, 0)) {
            throw new NoSuchElementException("the wall is stalled");
        }
        return growth.foundBrick;
    }

    /** Promise 22. */
    public int choices(int place) throws IndexOutOfBoundsException, NoSuchElementException {
        if (!isPlace(place)) {
            throw new IndexOutOfBoundsException("no such place");
        }
        if (!wall.isFree(place)) {
            throw new NoSuchElementException("the place has a brick");
        }
        return growth.choicesFor(wall, place);
    }

    /** Promise 23. */
    public int stuck() {
        return growth.stuckPlaces(wall);
    }

    /** Promise 24. */
    public int growsTo() {
        before.copyFrom(wall);
        growth.letGrow(before, PLACES);
        return before.brickCount();
    }

    /** Promise 25. */
    public int inRow(int row, boolean isColumn) throws IndexOutOfBoundsException {
        if (row < 0 || row >= (isColumn ? COLUMNS : ROWS)) {
            throw new IndexOutOfBoundsException("no such row or column");
        }
        int count = 0;
        for (int place = 0; place < PLACES; place++) {
            int its = isColumn ? place % COLUMNS : place / COLUMNS;
            if (its == row && !wall.isFree(place)) {
                count++;
            }
        }
        return count;
    }

    /** Promise 26. */
    public int weakest(int place) throws NoSuchElementException {
        int found = placeByHold(place);
        if (found == NONE) {
            throw new NoSuchElementException("there are not so many bricks");
        }
        return found;
    }

    /** Promise 27. */
    public int append(char character) throws IllegalStateException {
        if (text.isFull()) {
            throw new IllegalStateException("the text buffer is full");
        }
        return text.add(character);
    }

    /** Promise 28. */
    public int commands() throws IllegalArgumentException, UnsupportedOperationException {
        faultIndex = text.read();
        text.clear();
        if (faultIndex != NONE) {
            throw new IllegalArgumentException("the text has a fault");
        }
        before.copyFrom(wall);
        for (int command = 0; command < text.commandCount; command++) {
            if (carryOut(command) == NONE) {
                refusedCommand = command;
                wall.copyFrom(before);
                throw new UnsupportedOperationException("a command is refused");
            }
        }
        history.push(before);
        return text.commandCount;
    }

    /** Promise 29. */
    public int faultPosition() {
        return faultIndex;
    }

    /** Promise 30. */
    public int reason(int what) throws IllegalArgumentException, NoSuchElementException {
        if (what < 0 || what > 2) {
            throw new IllegalArgumentException("no such number of a reason");
        }
        if (mason.refusedFor == 0) {
            throw new NoSuchElementException("nothing was refused");
        }
        if (what == 0) {
            return mason.refusedFor;
        }
        return what == 1 ? mason.refusedDetail : refusedCommand;
    }

    /** Promise 31. */
    public int line(int row) throws IndexOutOfBoundsException {
        if (row < 0 || row >= ROWS) {
            throw new IndexOutOfBoundsException("no such row");
        }
        lineLength = 0;
        for (int column = 0; column < COLUMNS; column++) {
            writePlace(wall.brickOn(row * COLUMNS + column));
        }
        return lineLength;
    }

    /** Promise 32. */
    public char character(int index) throws IndexOutOfBoundsException {
        if (index < 0 || index >= lineLength) {
            throw new IndexOutOfBoundsException("no such character in the line");
        }
        return lineSigns[index];
    }

    /** Promise 33. */
    public double meanHold() throws ArithmeticException {
        int bricks = wall.brickCount();
        if (bricks == 0) {
            throw new ArithmeticException("there are no bricks");
        }
        return (double) wall.allHolds(NONE) / (double) bricks;
    }

    /** Promise 34. */
    public float standing() throws ArithmeticException {
        int bricks = wall.brickCount();
        if (bricks == 0) {
            throw new ArithmeticException("there are no bricks");
        }
        return (float) footing.countWithout(wall, NONE) / (float) bricks;
    }

    /** Promise 35. */
    public int account(int what) throws IllegalArgumentException {
        switch (what) {
            case 0:
                return wall.kindCount;
            case 1:
                return wall.brickCount();
            case 2:
                return wall.needed;
            case 3:
                return wall.laidSoFar;
            case 4:
                return wall.grownSoFar;
            case 5:
                return wall.takenSoFar;
            case 6:
                return wall.allHolds(NONE);
            case 7:
                return wall.neighbourPairs();
            case 8:
                return history.count;
            case 9:
                return text.length;
            default:
                throw new IllegalArgumentException("no such account");
        }
    }

    /** Promise 36. */
    public int undo() throws IllegalStateException {
        if (history.count == 0) {
            throw new IllegalStateException("there is nothing to undo");
        }
        history.popInto(wall);
        return history.count;
    }

    /** Promise 37. */
    public int save() {
        snapshot.copyFrom(wall);
        hasSnapshot = true;
        return wall.brickCount();
    }

    /** Promise 38. */
    public int restore() throws IllegalStateException {
        if (!hasSnapshot) {
            throw new IllegalStateException("there is no snapshot");
        }
        wall.copyFrom(snapshot);
        history.forget();
        return wall.brickCount();
    }

    private static boolean isPlace(int place) {
        return place >= 0 && place < PLACES;
    }

    private static boolean isTurnOrSide(int number) {
        return number >= 0 && number < SIDES;
    }

    /** A brick is told as one number, the one that nextBrick answers with. */
    private static int brickOf(int kind, int turn) {
        return kind * TURNS + turn;
    }

    private static int kindOf(int brick) {
        return brick / TURNS;
    }

    private static int turnOf(int brick) {
        return brick % TURNS;
    }

    private static int opposite(int side) {
        return (side + SIDES / 2) % SIDES;
    }

    /** The place beside a place, NONE at the wall's edge. */
    private static int beside(int place, int side) {
        int column = place % COLUMNS;
        switch (side) {
            case 0:
                return place < COLUMNS ? NONE : place - COLUMNS;
            case RIGHT:
                return column == COLUMNS - 1 ? NONE : place + 1;
            case BELOW:
                return place >= PLACES - COLUMNS ? NONE : place + COLUMNS;
            default:
                return column == 0 ? NONE : place - 1;
        }
    }

    /** Keeps what there was before a change that is a call of its own, or notes that it was refused. */
    private int settled(int answer) {
        if (answer == NONE) {
            refusedCommand = 0;
        } else {
            history.push(before);
        }
        return answer;
    }

    /** Carries out a command that was read; answers as its method would, NONE if it is refused. */
    private int carryOut(int command) {
        int first = text.numberOf(command, 0);
        int second = text.numberOf(command, 1);
        int third = text.numberOf(command, 2);
        switch (text.deedOf(command)) {
            case 'k':
                return mason.tellKind(wall, first, second, third, text.numberOf(command, 3));
            case 'l':
                return mason.layBrick(wall, first, second, third);
            case 't':
                return mason.takeBrick(wall, first);
            case 'g':
                return mason.growBricks(wall, first);
            case 's':
                return mason.setStrength(wall, first, second);
            default:
                return mason.setNeed(wall, first);
        }
    }

    private int placeByHold(int rank) {
        int passed = 0;
        for (int level = 0; level <= HOLD_MOST; level++) {
            for (int place = 0; place < PLACES; place++) {
                int brick = wall.brickOn(place);
                if (brick != NONE && wall.holdFor(brick, place) == level) {
                    if (passed == rank) {
                        return place;
                    }
                    passed++;
                }
            }
        }
        return NONE;
    }

    private void writePlace(int brick) {
        if (brick == NONE) {
            writeSign('.');
            return;
        }
        writeSign((char) ('0' + kindOf(brick)));
        for (int quarter = 0; quarter < turnOf(brick); quarter++) {
            writeSign('*');
        }
    }

    private void writeSign(char sign) {
        if (lineLength < LINE_MOST) {
            lineSigns[lineLength] = sign;
            lineLength++;
        }
    }

    /** All that undo and the snapshot bring back, and what can be told from it alone. */
    private static final class Wall {
        final int[] glues = new int[KINDS_MOST * SIDES];
        final int[] strengths = {0, 1, 1, 1, 1, 1, 1};
        final int[] bricks = new int[PLACES];
        int kindCount = 0;
        int needed = 2;
        int seedPlace = NONE;
        int laidSoFar = 0;
        int grownSoFar = 0;
        int takenSoFar = 0;

        Wall() {
            for (int place = 0; place < PLACES; place++) {
                bricks[place] = NONE;
            }
        }

        void copyFrom(Wall other) {
            System.arraycopy(other.glues, 0, glues, 0, KINDS_MOST * SIDES);
            System.arraycopy(other.strengths, 0, strengths, 0, GLUE_MOST + 1);
            System.arraycopy(other.bricks, 0, bricks, 0, PLACES);
            kindCount = other.kindCount;
            needed = other.needed;
            seedPlace = other.seedPlace;
            laidSoFar = other.laidSoFar;
            grownSoFar = other.grownSoFar;
            takenSoFar = other.takenSoFar;
        }

        boolean hasKind(int kind) {
            return kind >= 0 && kind < kindCount;
        }

        int brickOn(int place) {
            return place >= 0 && place < PLACES ? bricks[place] : NONE;
        }

        boolean isFree(int place) {
            return brickOn(place) == NONE;
        }

        /** The glue on a side of a brick that is turned; NONE where there is no brick. */
        int glueOn(int brick, int side) {
            if (brick < 0 || brick >= BRICKS_MOST) {
                return NONE;
            }
            int kind = brick / TURNS;
            int turn = brick % TURNS;
            return glues[kind * SIDES + ((side - turn) & (SIDES - 1))];
        }

        /** The glue that a neighbour turns towards a place; NONE where there is no neighbour. */
        int glueFacing(int place, int side) {
            return glueOn(brickOn(beside(place, side)), opposite(side));
        }

        int strengthBetween(int glue, int other) {
            return glue == other && glue > 0 && glue <= GLUE_MOST ? strengths[glue] : 0;
        }

        int strengthToward(int place, int side) {
            return strengthBetween(glueOn(brickOn(place), side), glueFacing(place, side));
        }

        boolean isErrorToward(int place, int side) {
            return areAtOdds(glueOn(brickOn(place), side), glueFacing(place, side));
        }

        boolean isNeighbourToward(int place, int side) {
            return !isFree(beside(place, side));
        }

        int holdFor(int brick, int place) {
            int sum = 0;
            for (int side = 0; side < SIDES; side++) {
                sum += strengthBetween(glueOn(brick, side), glueFacing(place, side));
            }
            return sum;
        }

        /** What all bricks have of hold together, pair by pair; as if one place were free. */
        int allHolds(int without) {
            int sum = 0;
            for (int place = 0; place < PLACES; place++) {
                for (int side = RIGHT; side <= BELOW; side++) {
                    if (place != without && beside(place, side) != without) {
                        sum += strengthToward(place, side);
                    }
                }
            }
            return 2 * sum;
        }

        int errorsOf(int place) {
            int count = 0;
            for (int side = 0; side < SIDES; side++) {
                if (isErrorToward(place, side)) {
                    count++;
                }
            }
            return count;
        }

        int errorPairs() {
            int count = 0;
            for (int place = 0; place < PLACES; place++) {
                for (int side = RIGHT; side <= BELOW; side++) {
                    if (isErrorToward(place, side)) {
                        count++;
                    }
                }
            }
            return count;
        }

        int neighbourPairs() {
            int count = 0;
            for (int place = 0; place < PLACES; place++) {
                for (int side = RIGHT; side <= BELOW; side++) {
                    if (!isFree(place) && isNeighbourToward(place, side)) {
                        count++;
                    }
                }
            }
            return count;
        }

        int brickCount() {
            int count = 0;
            for (int place = 0; place < PLACES; place++) {
                if (!isFree(place)) {
                    count++;
                }
            }
            return count;
        }

        void put(int place, int brick) {
            if (isPlace(place)) {
                bricks[place] = brick;
                laidSoFar++;
            }
        }

        void free(int place) {
            if (isPlace(place)) {
                bricks[place] = NONE;
                takenSoFar++;
            }
            if (place == seedPlace) {
                seedPlace = NONE;
            }
        }

        static boolean areAtOdds(int glue, int other) {
            return glue > 0 && other > 0 && glue != other;
        }
    }

    /** Finds the bricks that stand, by going from the seed over sides that hold each other. */
    private static final class Footing {
        private final boolean[] reached = new boolean[PLACES];
        private final int[] queue = new int[PLACES];
        private int queued = 0;

        /** How many bricks stand, as if one place were free. */
        int countWithout(Wall wall, int without) {
            for (int place = 0; place < PLACES; place++) {
                reached[place] = false;
            }
            queued = 0;
            if (wall.seedPlace != without) {
                reach(wall.seedPlace);
            }
            for (int head = 0; head < queued && head < PLACES; head++) {
                int place = queue[head];
                for (int side = 0; side < SIDES; side++) {
                    int next = beside(place, side);
                    if (next != without && wall.strengthToward(place, side) > 0) {
                        reach(next);
                    }
                }
            }
            return queued;
        }

        boolean isReached(int place) {
            return isPlace(place) && reached[place];
        }

        int fallingWithout(Wall wall, int place) {
            int now = countWithout(wall, NONE);
            if (!isReached(place)) {
                return 0;
            }
            return now - 1 - countWithout(wall, place);
        }

        private void reach(int place) {
            if (isPlace(place) && !reached[place] && queued < PLACES) {
                reached[place] = true;
                queue[queued] = place;
                queued++;
            }
        }
    }

    /** Finds the bricks that come by themselves. */
    private static final class Growth {
        private final int[] facing = new int[SIDES];
        int foundPlace = NONE;
        int foundBrick = NONE;

        /** Looks for the lowest place, from one on, at which a brick can grow. */
        boolean findFrom(Wall wall, int from) {
            for (int place = from < 0 ? 0 : from; place < PLACES; place++) {
                int brick = bestFor(wall, place);
                if (brick != NONE) {
                    foundPlace = place;
                    foundBrick = brick;
                    return true;
                }
            }
            return false;
        }

        int letGrow(Wall wall, int most) {
            int from = 0;
            int count = 0;
            while (count < most && findFrom(wall, from)) {
                wall.put(foundPlace, foundBrick);
                wall.grownSoFar++;
                count++;
                // Of the lower places only the neighbours of the new brick can have become fit.
                from = foundPlace - COLUMNS;
            }
            return count;
        }

        int choicesFor(Wall wall, int place) {
            lookAround(wall, place);
            int count = 0;
            for (int brick = 0; brick < wall.kindCount * TURNS; brick++) {
                if (holdIfFit(wall, brick) >= wall.needed) {
                    count++;
                }
            }
            return count;
        }

        int stuckPlaces(Wall wall) {
            int count = 0;
            for (int place = 0; place < PLACES; place++) {
                if (wall.isFree(place) && lookAround(wall, place) && bestFor(wall, place) == NONE) {
                    count++;
                }
            }
            return count;
        }

        private int bestFor(Wall wall, int place) {
            if (!wall.isFree(place) || !lookAround(wall, place)) {
                return NONE;
            }
            int best = NONE;
            int bestHold = wall.needed - 1;
            for (int brick = 0; brick < wall.kindCount * TURNS; brick++) {
                int held = holdIfFit(wall, brick);
                if (held > bestHold) {
                    best = brick;
                    bestHold = held;
                }
            }
            return best;
        }

        /** Notes the glues that face a place once for all bricks; answers whether it has a neighbour. */
        private boolean lookAround(Wall wall, int place) {
            boolean hasNeighbour = false;
            for (int side = 0; side < SIDES; side++) {
                int neighbour = wall.brickOn(beside(place, side));
                facing[side] = wall.glueOn(neighbour, opposite(side));
                hasNeighbour = hasNeighbour || neighbour != NONE;
            }
            return hasNeighbour;
        }

        /** The hold of a brick among the glues that were noted, NONE if it makes an error there. */
        private int holdIfFit(Wall wall, int brick) {
            int sum = 0;
            for (int side = 0; side < SIDES; side++) {
                if (facing[side] != NONE) {
                    int glue = wall.glueOn(brick, side);
                    if (Wall.areAtOdds(glue, facing[side])) {
                        return NONE;
                    }
                    sum += wall.strengthBetween(glue, facing[side]);
                }
            }
            return sum;
        }
    }

    /** Carries out changes on the wall; what it refuses leaves the wall as it was, and the reason is kept. */
    private static final class Mason {
        private final Footing footing;
        private final Growth growth;
        int refusedFor = 0;
        int refusedDetail = 0;

        Mason(Footing footing, Growth growth) {
            this.footing = footing;
            this.growth = growth;
        }

        int tellKind(Wall wall, int above, int right, int below, int left) {
            if (!isGlue(above) || !isGlue(right) || !isGlue(below) || !isGlue(left)) {
                return refuse(OUT_OF_RANGE, 0);
            }
            if (wall.kindCount >= KINDS_MOST) {
                return refuse(TOO_MANY_KINDS, KINDS_MOST);
            }
            int at = wall.kindCount * SIDES;
            wall.glues[at] = above;
            wall.glues[at + 1] = right;
            wall.glues[at + 2] = below;
            wall.glues[at + 3] = left;
            wall.kindCount++;
            return wall.kindCount - 1;
        }

        int layBrick(Wall wall, int place, int kind, int turn) {
            if (!isPlace(place) || !isTurnOrSide(turn)) {
                return refuse(OUT_OF_RANGE, 0);
            }
            if (!wall.hasKind(kind)) {
                return refuse(NO_SUCH_KIND, kind);
            }
            if (!wall.isFree(place)) {
                return refuse(PLACE_TAKEN, kindOf(wall.brickOn(place)));
            }
            int brick = brickOf(kind, turn);
            if (wall.seedPlace == NONE) {
                wall.put(place, brick);
                wall.seedPlace = place;
                return 0;
            }
            int held = wall.holdFor(brick, place);
            if (held < wall.needed) {
                return refuse(TOO_LITTLE_HOLD, wall.needed - held);
            }
            wall.put(place, brick);
            return held;
        }

        int takeBrick(Wall wall, int place) {
            if (!isPlace(place)) {
                return refuse(OUT_OF_RANGE, 0);
            }
            if (wall.isFree(place)) {
                return refuse(PLACE_FREE, place);
            }
            int falling = footing.fallingWithout(wall, place);
            if (falling > 0) {
                return refuse(OTHERS_FALL, falling);
            }
            int kind = kindOf(wall.brickOn(place));
            wall.free(place);
            return kind;
        }

        int growBricks(Wall wall, int most) {
            if (most < 1 || most > PLACES) {
                return refuse(OUT_OF_RANGE, 0);
            }
            int count = growth.letGrow(wall, most);
            if (count == 0) {
                return refuse(STALLED, growth.stuckPlaces(wall));
            }
            return count;
        }

        int setStrength(Wall wall, int glue, int strength) {
            if (glue < 1 || glue > GLUE_MOST || strength < 0 || strength > STRENGTH_MOST) {
                return refuse(OUT_OF_RANGE, 0);
            }
            int earlier = wall.strengths[glue];
            if (earlier == strength) {
                return refuse(SO_ALREADY, 0);
            }
            wall.strengths[glue] = strength;
            return earlier;
        }

        int setNeed(Wall wall, int need) {
            if (need < 1 || need > NEED_MOST) {
                return refuse(OUT_OF_RANGE, 0);
            }
            int earlier = wall.needed;
            if (earlier == need) {
                return refuse(SO_ALREADY, 0);
            }
            wall.needed = need;
            return earlier;
        }

        private int refuse(int reason, int detail) {
            refusedFor = reason;
            refusedDetail = detail;
            return NONE;
        }

        private static boolean isGlue(int glue) {
            return glue >= 0 && glue <= GLUE_MOST;
        }
    }

    /** What there was before each of the latest changes. */
    private static final class History {
        private final Wall[] walls = new Wall[CHANGES_MOST];
        private int next = 0;
        int count = 0;

        History() {
            for (int at = 0; at < CHANGES_MOST; at++) {
                walls[at] = new Wall();
            }
        }

        void push(Wall wall) {
            walls[next].copyFrom(wall);
            next = (next + 1) % CHANGES_MOST;
            count = Math.min(count + 1, CHANGES_MOST);
        }

        void popInto(Wall wall) {
            if (count > 0) {
                next = (next + CHANGES_MOST - 1) % CHANGES_MOST;
                count--;
                wall.copyFrom(walls[next]);
            }
        }

        void forget() {
            count = 0;
        }
    }

    /** The text buffer, and the commands that were read from it last. */
    private static final class Text {
        private final char[] signs = new char[SIGNS_MOST];
        private final char[] deeds = new char[COMMANDS_MOST];
        private final int[] numbers = new int[COMMANDS_MOST * NUMBERS];
        private int at = 0;
        int length = 0;
        int commandCount = 0;

        boolean isFull() {
            return length >= SIGNS_MOST;
        }

        int add(char sign) {
            if (!isFull()) {
                signs[length] = sign;
                length++;
            }
            return length;
        }

        void clear() {
            length = 0;
        }

        char deedOf(int command) {
            return command >= 0 && command < COMMANDS_MOST ? deeds[command] : ' ';
        }

        int numberOf(int command, int which) {
            int index = command * NUMBERS + which;
            return index >= 0 && index < COMMANDS_MOST * NUMBERS ? numbers[index] : 0;
        }

        /** Reads all commands; answers the fault position, NONE if there is no fault. */
        int read() {
            at = 0;
            commandCount = 0;
            while (commandCount < COMMANDS_MOST) {
                if (!readCommand()) {
                    return at;
                }
                commandCount++;
                if (at == length) {
                    return NONE;
                }
                if (!skip(';')) {
                    return at;
                }
            }
            return at;
        }

        private boolean readCommand() {
            char deed = here();
            deeds[commandCount] = deed;
            switch (deed) {
                case 'k':
                    at++;
                    return readDigits(NUMBERS);
                case 'l':
                    at++;
                    return readPlaceAndBrick();
                case 't':
                case 'g':
                    at++;
                    return readNumber(0);
                case 's':
                    at++;
                    return readDigits(2);
                case 'n':
                    at++;
                    return readDigits(1);
                default:
                    return false;
            }
        }

        private boolean readPlaceAndBrick() {
            if (!readNumber(0) || !skip(':') || !readDigit(1)) {
                return false;
            }
            int quarters = 0;
            while (quarters < TURNS - 1 && skip('*')) {
                quarters++;
            }
            note(2, quarters);
            return true;
        }

        private boolean readDigits(int count) {
            for (int which = 0; which < count; which++) {
                if (!readDigit(which)) {
                    return false;
                }
            }
            return true;
        }

        /** Reads a number of one digit or two. */
        private boolean readNumber(int which) {
            if (!readDigit(which)) {
                return false;
            }
            int tens = numberOf(commandCount, which);
            if (readDigit(which)) {
                note(which, 10 * tens + numberOf(commandCount, which));
            }
            return true;
        }

        private boolean readDigit(int which) {
            char sign = here();
            if (sign < '0' || sign > '9') {
                return false;
            }
            note(which, sign - '0');
            at++;
            return true;
        }

        private boolean skip(char sign) {
            if (here() != sign) {
                return false;
            }
            at++;
            return true;
        }

        /** The sign at which reading stands; behind the text one that no command has. */
        private char here() {
            return at < length && at < SIGNS_MOST ? signs[at] : ' ';
        }

        private void note(int which, int number) {
            int index = commandCount * NUMBERS + which;
            if (index >= 0 && index < COMMANDS_MOST * NUMBERS) {
                numbers[index] = number;
            }
        }
    }
}
