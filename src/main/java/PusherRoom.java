import java.util.NoSuchElementException;

/**
 * A room in which a player pushes boxes to goals. README.md says how to use it.
 *
 * A set of cells is a long with bit c for cell c: a room has 64 cells at most. All rows are made with
 * the object and used again by each call, so that calls make nothing but the exceptions they throw.
 */
public final class PusherRoom {
    private static final int CELLS = 64;
    private static final int LEAST_SIDE = 3;
    private static final int MOST_SIDE = 8;
    private static final int MOST_BOXES = 5;
    private static final int MOST_INPUT = 80;
    private static final int MOST_STEPS = 400;
    private static final int MOST_UNDONE = 8;
    private static final int MOST_LIMIT = 1000;
    /** More than twice the positions, so that free slots are near; a power of two, for the mask. */
    private static final int SLOTS = 2048;
    /** The upper 11 bits of a product by this odd number depend on all boxes: sets of boxes start apart. */
    private static final long SPREAD = 0x9E3779B97F4A7C15L;
    private static final int SPREAD_SHIFT = 53;

    private static final int UP = 0;
    private static final int RIGHT = 1;
    private static final int DOWN = 2;
    private static final int LEFT = 3;
    private static final int DIRECTIONS = 4;

    private static final int INTO_WALL = 1;
    private static final int BOX_INTO_WALL = 2;
    private static final int BOX_ONTO_BOX = 3;
    private static final int OUT_OF_REACH = 4;
    private static final int SMALL_LETTER_PUSHES = 5;
    private static final int CAPITAL_PUSHES_NOT = 6;

    private static final int ON_DEAD_CELL = 1;
    private static final int FROZEN_OFF_GOAL = 2;

    private static final int NONE = -1;
    private static final int FAULT = -100;
    /** A letter's place here is its direction, and 4 more for a push: the code of a step. */
    private static final String LETTERS = "urdlURDL";
    private static final String CELL_SIGNS = "#-.$*@+";

    private final TextInput input;
    private final RoomText roomText;
    private final Game game;
    private final Game saved;
    private final History history;
    private final GoalRooms goalRooms;
    private final Matching matching;
    private final Search search;
    private final Solution solution;
    private int keptReason;
    private int keptDetail;
    private int refusedStep;

    public PusherRoom() {
        input = new TextInput();
        roomText = new RoomText();
        game = new Game();
        saved = new Game();
        history = new History();
        goalRooms = new GoalRooms(game.grid);
        matching = new Matching(game.grid);
        search = new Search(game.grid);
        solution = new Solution();
        keptReason = 0;
        keptDetail = 0;
        refusedStep = NONE;
    }

    // ---- the room

    public int feed(char character) throws IllegalArgumentException, IllegalStateException {
        if (character < 32 || character > 126) {
            throw new IllegalArgumentException("the character's code is not from 32 to 126");
        }
        if (input.length >= MOST_INPUT) {
            throw new IllegalStateException("the input is full");
        }
        input.add(character);
        return input.length;
    }

    public int readRoom() throws ArithmeticException {
        int length = input.take();
        int fault = roomText.read(input, length);
        if (fault != NONE) {
            return FAULT - fault;
        }
        if (!roomText.isRoom()) {
            throw new ArithmeticException("the size, the player, the boxes or the goals are not those of a room");
        }
        game.begin(roomText);
        history.clear();
        return Long.bitCount(game.grid.open);
    }

    public char cell(int row, int column) throws IllegalStateException, IndexOutOfBoundsException {
        requireRoom();
        if (!game.grid.hasPlace(row, column)) {
            throw new IndexOutOfBoundsException("there is no such cell");
        }
        return game.signOf(row * game.grid.columns + column);
    }

    public long cells(int what) throws IllegalStateException, IllegalArgumentException {
        requireRoom();
        Grid grid = game.grid;
        long boxes = game.now.boxes;
        switch (what) {
            case 0: return grid.open;
            case 1: return grid.goals;
            case 2: return boxes;
            case 3: return game.now.area();
            case 4: return grid.dead;
            case 5: return grid.frozen(boxes);
            case 6: return grid.tunnelsInRow();
            case 7: return grid.tunnelsInColumn();
            case 8: return boxes & grid.goals;
            default: throw new IllegalArgumentException("there is no such set");
        }
    }

    public int count(int what) throws IllegalArgumentException {
        Grid grid = game.grid;
        switch (what) {
            case 0: return grid.rows;
            case 1: return grid.columns;
            case 2: return Long.bitCount(game.now.boxes);
            case 3: return Long.bitCount(grid.goals);
            case 4: return game.now.player;
            case 5: return game.steps;
            case 6: return game.pushes();
            case 7: return history.size;
            case 8: return grid.groups(game.now.free());
            case 9: return goalRooms.howMany();
            case 10: return grid.isLaid() && game.now.isSolved() ? 1 : 0;
            case 11: return input.length;
            default: throw new IllegalArgumentException("there is no such count");
        }
    }

    public int distance(int cell, int goal)
            throws IllegalStateException, IndexOutOfBoundsException, NoSuchElementException {
        requireRoom();
        Grid grid = game.grid;
        if (!has(grid.open, cell)) {
            throw new IndexOutOfBoundsException("there is no such open cell");
        }
        if (goal != NONE && !has(grid.goals, goal)) {
            throw new IndexOutOfBoundsException("there is no such goal");
        }
        int pushes = grid.leastPushes(bit(cell), goal == NONE ? grid.goals : bit(goal));
        if (pushes == NONE) {
            throw new NoSuchElementException("there is no distance");
        }
        return pushes;
    }

    public int bound() throws IllegalStateException, NoSuchElementException {
        requireRoom();
        int sum = matching.leastSum(game.now.boxes);
        if (sum == NONE) {
            throw new NoSuchElementException("there is no bound");
        }
        return sum;
    }

    public int stuck(boolean isDetail) throws IllegalStateException {
        requireRoom();
        long boxes = game.now.boxes;
        int reason = game.grid.stuckReason(boxes);
        if (!isDetail) {
            return reason;
        }
        if (reason == 0) {
            throw new IllegalStateException("the room is not stuck");
        }
        return game.grid.stuckDetail(boxes, reason);
    }

    public int goalRoom(int room, int i) throws IllegalStateException, NoSuchElementException {
        requireRoom();
        long goals = goalRooms.goalsOf(room);
        if (goals == 0 || i < -2 || i >= Long.bitCount(goals)) {
            throw new NoSuchElementException("there is no such goal room or place");
        }
        if (i == -2) {
            return Long.bitCount(goals);
        }
        return i == -1 ? lowest(goalRooms.entrances(goals)) : goalRooms.goalAt(goals, i);
    }

    // ---- commands

    public int step(int direction)
            throws IllegalArgumentException, IllegalStateException, UnsupportedOperationException {
        requireDirection(direction);
        requireRoom();
        if (game.steps >= MOST_STEPS) {
            throw new IllegalStateException("400 steps were recorded");
        }
        int reason = game.now.stepReason(direction);
        if (reason != 0) {
            keepRefusal(reason, game.now.stepDetail(reason, direction));
            throw new UnsupportedOperationException("the step is refused");
        }
        history.begin(game);
        boolean isPush = game.makeStep(direction);
        history.commit();
        return isPush ? 1 : 0;
    }

    public int push(int cell, int direction) throws IllegalArgumentException, IllegalStateException,
            IndexOutOfBoundsException, UnsupportedOperationException, ArithmeticException {
        requirePush(cell, direction);
        history.begin(game);
        int stepsBefore = game.steps;
        game.pushBox(cell, direction);
        commitOrThrow();
        return game.steps - stepsBefore;
    }

    public int longPush(int cell, int direction) throws IllegalArgumentException, IllegalStateException,
            IndexOutOfBoundsException, UnsupportedOperationException, ArithmeticException {
        requirePush(cell, direction);
        history.begin(game);
        int pushes = game.pushBoxOn(cell, direction);
        commitOrThrow();
        return pushes;
    }

    public int play() throws IllegalStateException, UnsupportedOperationException, ArithmeticException {
        int length = input.take();
        requireRoom();
        int fault = input.faultAsSteps(length);
        if (fault != NONE) {
            return FAULT - fault;
        }
        history.begin(game);
        int stepsBefore = game.steps;
        if (!playElements(length)) {
            refusedStep = game.steps - stepsBefore;
            history.rollBack(game);
            throw new UnsupportedOperationException("a step is refused");
        }
        commitOrThrow();
        return game.steps - stepsBefore;
    }

    public int refused() throws NoSuchElementException {
        if (refusedStep == NONE) {
            throw new NoSuchElementException("no step of a text was refused");
        }
        return refusedStep;
    }

    public int refusal(boolean isDetail) throws NoSuchElementException {
        if (keptReason == 0) {
            throw new NoSuchElementException("nothing was refused");
        }
        return isDetail ? keptDetail : keptReason;
    }

    public int refuses(int cell, int direction)
            throws IllegalArgumentException, IllegalStateException, IndexOutOfBoundsException {
        requireBox(cell, direction);
        return game.now.pushReason(cell, direction);
    }

    // ---- search

    public int solve(int limit, boolean withTables)
            throws IllegalArgumentException, IllegalStateException, ArithmeticException, NoSuchElementException {
        searchAndKeep(limit, withTables);
        return solution.pushes;
    }

    public int solution(int i, boolean isDirection) throws NoSuchElementException {
        if (solution.pushes == NONE || i < -1 || i >= solution.pushes) {
            throw new NoSuchElementException("there is no such part of a solution");
        }
        if (i == -1) {
            return isDirection ? solution.positions : solution.pushes;
        }
        return isDirection ? solution.directionAt(i) : solution.cellAt(i);
    }

    public int finish(int limit)
            throws IllegalArgumentException, IllegalStateException, ArithmeticException, NoSuchElementException {
        searchAndKeep(limit, true);
        history.begin(game);
        int stepsBefore = game.steps;
        for (int i = 0; i < solution.pushes; i++) {
            game.pushBox(solution.cellAt(i), solution.directionAt(i));
        }
        commitOrThrow();
        return game.steps - stepsBefore;
    }

    // ---- records, undo, snapshot

    public char recorded(int i) throws IndexOutOfBoundsException {
        if (i < 0 || i >= game.steps) {
            throw new IndexOutOfBoundsException("there is no such step");
        }
        return letterOf(intAt(game.record, i));
    }

    public boolean isReplayed() throws IllegalStateException {
        requireRoom();
        return game.comesOutAgain();
    }

    public int undo() throws IllegalStateException {
        if (history.size == 0) {
            throw new IllegalStateException("no command can be undone");
        }
        history.goBack(game);
        return history.size;
    }

    public int saveSnapshot() throws IllegalStateException {
        requireRoom();
        saved.copy(game);
        return saved.steps;
    }

    public int restoreSnapshot() throws IllegalStateException {
        if (!saved.grid.isLaid()) {
            throw new IllegalStateException("no snapshot was saved");
        }
        game.copy(saved);
        history.clear();
        return game.steps;
    }

    // ---- what several public methods share

    private void requireRoom() {
        if (!game.grid.isLaid()) {
            throw new IllegalStateException("there is no room");
        }
    }

    private static void requireDirection(int direction) {
        if (direction < 0 || direction >= DIRECTIONS) {
            throw new IllegalArgumentException("there is no such direction");
        }
    }

    private void requireBox(int cell, int direction) {
        requireDirection(direction);
        requireRoom();
        if (!has(game.now.boxes, cell)) {
            throw new IndexOutOfBoundsException("there is no box on such a cell");
        }
    }

    private void requirePush(int cell, int direction) {
        requireBox(cell, direction);
        int reason = game.now.pushReason(cell, direction);
        if (reason != 0) {
            keepRefusal(reason, game.now.pushDetail(reason, cell, direction));
            throw new UnsupportedOperationException("the push is refused");
        }
    }

    private void keepRefusal(int reason, int detail) {
        keptReason = reason;
        keptDetail = detail;
    }

    /** Only when all steps of a command are made is it known whether the record can hold them. */
    private void commitOrThrow() {
        if (game.steps > MOST_STEPS) {
            history.rollBack(game);
            throw new ArithmeticException("more than 400 steps would be recorded");
        }
        history.commit();
    }

    private void searchAndKeep(int limit, boolean withTables) {
        if (limit < 1 || limit > MOST_LIMIT) {
            throw new IllegalArgumentException("the limit is not from 1 to 1000");
        }
        requireRoom();
        search.run(game.now, limit, withTables);
        if (search.hasGivenUp) {
            throw new ArithmeticException("the search gives up");
        }
        if (search.solved == NONE) {
            throw new NoSuchElementException("there is no solution");
        }
        solution.keep(search);
    }

    /** Makes the steps of a text without a fault; false, with the refusal kept, if one is refused. */
    private boolean playElements(int length) {
        int number = 0;
        for (int i = 0; i < length; i++) {
            char sign = input.at(i);
            int code = LETTERS.indexOf(sign);
            if (code < 0) {
                number = number * 10 + (sign - '0');
            } else {
                if (!playElement(code, Math.max(number, 1))) {
                    return false;
                }
                number = 0;
            }
        }
        return true;
    }

    private boolean playElement(int code, int times) {
        int direction = directionOf(code);
        for (int i = 0; i < times; i++) {
            int reason = game.now.letterReason(direction, isPushCode(code));
            if (reason != 0) {
                keepRefusal(reason, game.now.stepDetail(reason, direction));
                return false;
            }
            game.makeStep(direction);
        }
        return true;
    }

    // ---- cells, codes and rows

    private static long bit(int cell) {
        return 1L << cell;
    }

    private static boolean has(long set, int cell) {
        return cell >= 0 && cell < CELLS && (set & bit(cell)) != 0;
    }

    /** The lowest cell of a set, 64 for the empty one. */
    private static int lowest(long set) {
        return Long.bitCount((set & -set) - 1);
    }

    private static int opposite(int direction) {
        return direction + 2 & 3;
    }

    private static int codeOf(int direction, boolean isPush) {
        return isPush ? direction + DIRECTIONS : direction;
    }

    private static int directionOf(int code) {
        return code & 3;
    }

    private static boolean isPushCode(int code) {
        return code >= DIRECTIONS;
    }

    private static char letterOf(int code) {
        return code >= 0 && code < LETTERS.length() ? LETTERS.charAt(code) : ' ';
    }

    private static int intAt(int[] row, int i) {
        return i >= 0 && i < row.length ? row[i] : 0;
    }

    private static void setInt(int[] row, int i, int value) {
        if (i >= 0 && i < row.length) {
            row[i] = value;
        }
    }

    private static long longAt(long[] row, int i) {
        return i >= 0 && i < row.length ? row[i] : 0;
    }

    private static void setLong(long[] row, int i, long value) {
        if (i >= 0 && i < row.length) {
            row[i] = value;
        }
    }

    /** The characters that were fed and not yet read. */
    private static final class TextInput {
        private final char[] signs;
        int length;

        TextInput() {
            signs = new char[MOST_INPUT];
            length = 0;
        }

        void add(char sign) {
            if (length >= 0 && length < signs.length) {
                signs[length] = sign;
                length++;
            }
        }

        /** Empties the input; its characters can be read up to the length returned until the next one comes. */
        int take() {
            int taken = length;
            length = 0;
            return taken;
        }

        char at(int i) {
            return i >= 0 && i < signs.length ? signs[i] : ' ';
        }

        /** The fault position as a text of steps, or NONE. */
        int faultAsSteps(int taken) {
            int digits = 0;
            for (int i = 0; i < taken; i++) {
                char sign = at(i);
                if (LETTERS.indexOf(sign) >= 0) {
                    digits = 0;
                } else if (isDigit(sign, digits)) {
                    digits++;
                } else {
                    return i;
                }
            }
            return taken == 0 || digits > 0 ? taken : NONE;
        }

        private static boolean isDigit(char sign, int digitsBefore) {
            char least = digitsBefore == 0 ? '1' : '0';
            return digitsBefore < 2 && sign >= least && sign <= '9';
        }
    }

    /** Reads a text as a room of any size, and tells whether it is one of a size that is played. */
    private static final class RoomText {
        int rows;
        int columns;
        long open;
        long goals;
        long boxes;
        int player;
        private int width;
        private int cellsRead;
        private int goalCount;
        private int boxCount;

        RoomText() {
            clear();
        }

        private void clear() {
            rows = 0;
            columns = 0;
            open = 0;
            goals = 0;
            boxes = 0;
            player = NONE;
            width = 0;
            cellsRead = 0;
            goalCount = 0;
            boxCount = 0;
        }

        /** Returns the fault position, or NONE. */
        int read(TextInput text, int length) {
            clear();
            for (int i = 0; i < length; i++) {
                char sign = text.at(i);
                boolean goesOn = sign == '/' ? endRow() : addCell(sign);
                if (!goesOn) {
                    return i;
                }
            }
            return endRow() ? NONE : length;
        }

        private boolean endRow() {
            if (width == 0 || rows > 0 && width < columns) {
                return false;
            }
            columns = width;
            rows++;
            width = 0;
            return true;
        }

        private boolean addCell(char sign) {
            boolean isGoal = sign == '.' || sign == '*' || sign == '+';
            boolean isBox = sign == '$' || sign == '*';
            boolean isPlayer = sign == '@' || sign == '+';
            if (CELL_SIGNS.indexOf(sign) < 0 || rows > 0 && width == columns) {
                return false;
            }
            if (isPlayer && player != NONE || isBox && boxCount == MOST_BOXES) {
                return false;
            }
            // Cells beyond 64 only stand in rooms of a size that is not played: they are counted alone.
            long place = cellsRead < CELLS ? bit(cellsRead) : 0;
            if (sign != '#') {
                open |= place;
            }
            if (isGoal) {
                goals |= place;
                goalCount++;
            }
            if (isBox) {
                boxes |= place;
                boxCount++;
            }
            if (isPlayer) {
                player = cellsRead;
            }
            cellsRead++;
            width++;
            return true;
        }

        boolean isRoom() {
            return isSide(rows) && isSide(columns) && player != NONE && boxCount > 0 && goalCount >= boxCount;
        }

        private static boolean isSide(int length) {
            return length >= LEAST_SIDE && length <= MOST_SIDE;
        }
    }

    /** The walls and goals of a room, and the tables that follow from them; no rows before one is laid. */
    private static final class Grid {
        int rows;
        int columns;
        long open;
        long goals;
        long dead;
        private long firstColumn;
        private long lastColumn;

        Grid() {
            rows = 0;
            columns = 0;
            open = 0;
            goals = 0;
            dead = 0;
            firstColumn = 0;
            lastColumn = 0;
        }

        void lay(RoomText text) {
            rows = text.rows;
            columns = text.columns;
            open = text.open;
            goals = text.goals;
            firstColumn = 0;
            for (int row = 0; row < rows; row++) {
                firstColumn |= bit(row * columns);
            }
            lastColumn = firstColumn << columns - 1;
            dead = open & ~pulled(goals);
        }

        void copy(Grid other) {
            rows = other.rows;
            columns = other.columns;
            open = other.open;
            goals = other.goals;
            dead = other.dead;
            firstColumn = other.firstColumn;
            lastColumn = other.lastColumn;
        }

        boolean isLaid() {
            return rows > 0;
        }

        boolean hasPlace(int row, int column) {
            return row >= 0 && row < rows && column >= 0 && column < columns;
        }

        /** The open cells that are neighbors in a direction of the cells of a set. */
        long moved(long set, int direction) {
            switch (direction) {
                case UP: return set >>> columns & open;
                case RIGHT: return (set & ~lastColumn) << 1 & open;
                case DOWN: return set << columns & open;
                case LEFT: return (set & ~firstColumn) >>> 1 & open;
                default: return 0;
            }
        }

        /** The open cells that are neighbors of the cells of a set. */
        long beside(long set) {
            return moved(set, UP) | moved(set, RIGHT) | moved(set, DOWN) | moved(set, LEFT);
        }

        /** The cells that steps over the cells of one set reach from those of another. */
        long spread(long start, long over) {
            long reached = start & over;
            for (int i = 0; i < CELLS; i++) {
                long more = reached | beside(reached) & over;
                if (more == reached) {
                    break;
                }
                reached = more;
            }
            return reached;
        }

        int groups(long set) {
            int number = 0;
            long rest = set;
            for (int i = 0; i < CELLS && rest != 0; i++) {
                rest &= ~spread(rest & -rest, set);
                number++;
            }
            return number;
        }

        /** The cells to which one lone push takes a box from the cells of a set. */
        long lonePushed(long set) {
            long result = 0;
            for (int direction = 0; direction < DIRECTIONS; direction++) {
                result |= moved(set & moved(open, direction), direction);
            }
            return result;
        }

        /** The cells from which lone pushes take a box to the cells of a set. */
        private long pulled(long set) {
            long reached = set;
            for (int i = 0; i < CELLS; i++) {
                long more = reached;
                for (int direction = 0; direction < DIRECTIONS; direction++) {
                    more |= moved(reached, opposite(direction)) & moved(open, direction);
                }
                if (more == reached) {
                    break;
                }
                reached = more;
            }
            return reached;
        }

        /** The least number of lone pushes from the cells of one set to those of another, or NONE. */
        int leastPushes(long start, long targets) {
            long layer = start;
            long seen = start;
            for (int pushes = 0; pushes < CELLS && layer != 0; pushes++) {
                if ((layer & targets) != 0) {
                    return pushes;
                }
                layer = lonePushed(layer) & ~seen;
                seen |= layer;
            }
            return NONE;
        }

        /** The greatest set is what is left when boxes that are not blocked are taken away until none is. */
        long frozen(long boxes) {
            long deadBesideInRow = moved(dead, LEFT) & moved(dead, RIGHT);
            long deadBesideInColumn = moved(dead, UP) & moved(dead, DOWN);
            long result = boxes;
            for (int i = 0; i < CELLS; i++) {
                long free = open & ~result;
                long blockedInRow = deadBesideInRow | ~(moved(free, LEFT) & moved(free, RIGHT));
                long blockedInColumn = deadBesideInColumn | ~(moved(free, UP) & moved(free, DOWN));
                long less = result & blockedInRow & blockedInColumn;
                if (less == result) {
                    break;
                }
                result = less;
            }
            return result;
        }

        int stuckReason(long boxes) {
            if ((boxes & dead) != 0) {
                return ON_DEAD_CELL;
            }
            return (frozen(boxes) & ~goals) != 0 ? FROZEN_OFF_GOAL : 0;
        }

        int stuckDetail(long boxes, int reason) {
            return lowest(reason == ON_DEAD_CELL ? boxes & dead : frozen(boxes) & ~goals);
        }

        long tunnelsInRow() {
            return open & ~goals & ~moved(open, UP) & ~moved(open, DOWN);
        }

        long tunnelsInColumn() {
            return open & ~goals & ~moved(open, LEFT) & ~moved(open, RIGHT);
        }

        long tunnelsAlong(int direction) {
            return direction == LEFT || direction == RIGHT ? tunnelsInRow() : tunnelsInColumn();
        }
    }

    /** Cells by the least number of steps that lead to them from a first one. */
    private static final class Layers {
        private final long[] sets;
        int size;

        Layers() {
            sets = new long[CELLS];
            size = 0;
        }

        void lay(Grid grid, long start, long over) {
            long layer = start;
            long seen = start;
            size = 0;
            for (int i = 0; i < CELLS && layer != 0; i++) {
                setLong(sets, i, layer);
                size++;
                layer = grid.beside(layer) & over & ~seen;
                seen |= layer;
            }
        }

        long at(int i) {
            return i < size ? longAt(sets, i) : 0;
        }

        /** The number of the layer that has a cell, or NONE. */
        int find(int cell) {
            for (int i = 0; i < size; i++) {
                if (has(at(i), cell)) {
                    return i;
                }
            }
            return NONE;
        }
    }

    /** Finds goal rooms and the order of their goals. */
    private static final class GoalRooms {
        private final Grid grid;
        private final Layers layers;

        GoalRooms(Grid grid) {
            this.grid = grid;
            layers = new Layers();
        }

        int howMany() {
            int number = 0;
            while (number < CELLS && goalsOf(number) != 0) {
                number++;
            }
            return number;
        }

        /** The goals of the goal room with a number, the empty set if there is none. */
        long goalsOf(int room) {
            long rest = grid.goals;
            int number = 0;
            for (int i = 0; i < CELLS && rest != 0; i++) {
                long group = grid.spread(rest & -rest, grid.goals);
                rest &= ~group;
                if (Long.bitCount(entrances(group)) == 1) {
                    if (number == room) {
                        return group;
                    }
                    number++;
                }
            }
            return 0;
        }

        long entrances(long group) {
            return grid.beside(group) & ~grid.goals;
        }

        /** The goal at a place of the order of a goal room: the layers run the other way round. */
        int goalAt(long goals, int place) {
            layers.lay(grid, entrances(goals), goals);
            int before = 0;
            for (int i = layers.size - 1; i > 0; i--) {
                for (int cell = 0; cell < CELLS; cell++) {
                    if (has(layers.at(i), cell)) {
                        if (before == place) {
                            return cell;
                        }
                        before++;
                    }
                }
            }
            return NONE;
        }
    }

    /** Gives the boxes different goals so that the sum of the distances is least. */
    private static final class Matching {
        private final Grid grid;
        /** The distance of box b, in ascending order of the cells, to goal g at 64 * b + g; NONE without one. */
        private final int[] distances;
        /** The least sum for each set of boxes that have their goal, over the goals looked at; NONE without one. */
        private final int[] sums;

        Matching(Grid grid) {
            this.grid = grid;
            distances = new int[MOST_BOXES * CELLS];
            sums = new int[1 << MOST_BOXES];
        }

        /** Returns NONE if some box is left without a goal. */
        int leastSum(long boxes) {
            int number = measure(boxes);
            int all = (1 << number) - 1;
            for (int set = 0; set <= all; set++) {
                setInt(sums, set, set == 0 ? 0 : NONE);
            }
            for (int goal = 0; goal < CELLS; goal++) {
                if (has(grid.goals, goal)) {
                    offer(goal, number);
                }
            }
            return intAt(sums, all);
        }

        private int measure(long boxes) {
            int number = 0;
            for (int cell = 0; cell < CELLS && number < MOST_BOXES; cell++) {
                if (has(boxes, cell)) {
                    measureFrom(cell, CELLS * number);
                    number++;
                }
            }
            return number;
        }

        private void measureFrom(int cell, int offset) {
            for (int goal = 0; goal < CELLS; goal++) {
                setInt(distances, offset + goal, NONE);
            }
            long layer = bit(cell);
            long seen = layer;
            for (int pushes = 0; pushes < CELLS && layer != 0; pushes++) {
                for (int goal = 0; goal < CELLS; goal++) {
                    if (has(layer & grid.goals, goal)) {
                        setInt(distances, offset + goal, pushes);
                    }
                }
                layer = grid.lonePushed(layer) & ~seen;
                seen |= layer;
            }
        }

        /** Sets of more boxes come first, as each of them must build on one that has not used this goal. */
        private void offer(int goal, int number) {
            for (int set = (1 << number) - 1; set > 0; set--) {
                for (int box = 0; box < number; box++) {
                    if ((set >> box & 1) != 0) {
                        offerTo(box, set, intAt(distances, CELLS * box + goal));
                    }
                }
            }
        }

        private void offerTo(int box, int set, int distance) {
            int others = intAt(sums, set & ~(1 << box));
            if (others == NONE || distance == NONE) {
                return;
            }
            int present = intAt(sums, set);
            if (present == NONE || others + distance < present) {
                setInt(sums, set, others + distance);
            }
        }
    }

    /** The boxes and the player on a grid. */
    private static final class Position {
        private final Grid grid;
        long boxes;
        int player;

        Position(Grid grid) {
            this.grid = grid;
            boxes = 0;
            player = 0;
        }

        void put(long newBoxes, int newPlayer) {
            boxes = newBoxes;
            player = newPlayer;
        }

        boolean isLike(Position other) {
            return boxes == other.boxes && player == other.player;
        }

        boolean isSolved() {
            return (boxes & ~grid.goals) == 0;
        }

        long free() {
            return grid.open & ~boxes;
        }

        long area() {
            return grid.spread(bit(player), free());
        }

        private long ahead(int direction) {
            return grid.moved(bit(player), direction);
        }

        int stepReason(int direction) {
            long next = ahead(direction);
            if (next == 0) {
                return INTO_WALL;
            }
            return (next & boxes) == 0 ? 0 : boxReason(next, direction);
        }

        private int boxReason(long box, int direction) {
            long target = grid.moved(box, direction);
            if (target == 0) {
                return BOX_INTO_WALL;
            }
            return (target & boxes) == 0 ? 0 : BOX_ONTO_BOX;
        }

        int stepDetail(int reason, int direction) {
            switch (reason) {
                case BOX_INTO_WALL: return lowest(ahead(direction));
                case BOX_ONTO_BOX: return lowest(grid.moved(ahead(direction), direction));
                default: return player;
            }
        }

        /** Why a step of a text is refused, where a capital letter must push and a small one must not. */
        int letterReason(int direction, boolean isCapital) {
            int reason = stepReason(direction);
            boolean isPush = (ahead(direction) & boxes) != 0;
            if (reason != 0 || isPush == isCapital) {
                return reason;
            }
            return isPush ? SMALL_LETTER_PUSHES : CAPITAL_PUSHES_NOT;
        }

        int pushReason(int cell, int direction) {
            if ((behind(cell, direction) & area()) == 0) {
                return OUT_OF_REACH;
            }
            return boxReason(bit(cell), direction);
        }

        int pushDetail(int reason, int cell, int direction) {
            return reason == BOX_ONTO_BOX ? lowest(grid.moved(bit(cell), direction)) : cell;
        }

        long behind(int cell, int direction) {
            return grid.moved(bit(cell), opposite(direction));
        }

        /** Makes a step that is not refused, and returns whether a box was pushed. */
        boolean move(int direction) {
            long next = ahead(direction);
            boolean isPush = (next & boxes) != 0;
            if (isPush) {
                boxes = boxes & ~next | grid.moved(next, direction);
            }
            player = lowest(next);
            return isPush;
        }
    }

    /** A room as it was read, as it is now, and the steps between. */
    private static final class Game {
        final Grid grid;
        final Position now;
        private final Position start;
        private final Position again;
        private final Layers layers;
        /** The codes of the steps. */
        final int[] record;
        /** More than 400 only while a command is tried. */
        int steps;

        Game() {
            grid = new Grid();
            now = new Position(grid);
            start = new Position(grid);
            again = new Position(grid);
            layers = new Layers();
            record = new int[MOST_STEPS];
            steps = 0;
        }

        void begin(RoomText text) {
            grid.lay(text);
            start.put(text.boxes, text.player);
            returnTo(text.boxes, text.player, 0);
        }

        void copy(Game other) {
            grid.copy(other.grid);
            start.put(other.start.boxes, other.start.player);
            returnTo(other.now.boxes, other.now.player, other.steps);
            for (int i = 0; i < steps; i++) {
                setInt(record, i, intAt(other.record, i));
            }
        }

        void returnTo(long boxes, int player, int stepsThen) {
            now.put(boxes, player);
            steps = stepsThen;
        }

        char signOf(int cell) {
            boolean isGoal = has(grid.goals, cell);
            if (!has(grid.open, cell)) {
                return '#';
            }
            if (has(now.boxes, cell)) {
                return isGoal ? '*' : '$';
            }
            if (cell == now.player) {
                return isGoal ? '+' : '@';
            }
            return isGoal ? '.' : '-';
        }

        boolean makeStep(int direction) {
            boolean isPush = now.move(direction);
            setInt(record, steps, codeOf(direction, isPush));
            steps++;
            return isPush;
        }

        /** Makes a push that is not refused. */
        void pushBox(int cell, int direction) {
            walkTo(now.behind(cell, direction));
            makeStep(direction);
        }

        /** Makes a long push whose first push is not refused, and returns the number of pushes. */
        int pushBoxOn(int cell, int direction) {
            pushBox(cell, direction);
            int pushes = 1;
            long tunnels = grid.tunnelsAlong(direction);
            // The player is behind the box now, so that a step is a push.
            while (pushes < CELLS
                    && (grid.moved(bit(now.player), direction) & tunnels) != 0
                    && now.stepReason(direction) == 0) {
                makeStep(direction);
                pushes++;
            }
            return pushes;
        }

        /** Layers from the target tell at each cell which directions lie on a shortest way. */
        private void walkTo(long target) {
            layers.lay(grid, target, now.free());
            for (int i = layers.find(now.player) - 1; i >= 0; i--) {
                makeStep(directionInto(layers.at(i)));
            }
        }

        private int directionInto(long layer) {
            for (int direction = 0; direction < DIRECTIONS; direction++) {
                if ((grid.moved(bit(now.player), direction) & layer) != 0) {
                    return direction;
                }
            }
            return NONE;
        }

        int pushes() {
            int number = 0;
            for (int i = 0; i < steps; i++) {
                if (isPushCode(intAt(record, i))) {
                    number++;
                }
            }
            return number;
        }

        boolean comesOutAgain() {
            again.put(start.boxes, start.player);
            for (int i = 0; i < steps; i++) {
                int code = intAt(record, i);
                if (again.letterReason(directionOf(code), isPushCode(code)) != 0) {
                    return false;
                }
                again.move(directionOf(code));
            }
            return again.isLike(now);
        }
    }

    /** What the latest commands found when they began, and behind it the same for a command that is tried. */
    private static final class History {
        private final long[] boxes;
        private final int[] players;
        private final int[] steps;
        int size;

        History() {
            boxes = new long[MOST_UNDONE + 1];
            players = new int[MOST_UNDONE + 1];
            steps = new int[MOST_UNDONE + 1];
            size = 0;
        }

        void clear() {
            size = 0;
        }

        void begin(Game game) {
            setLong(boxes, size, game.now.boxes);
            setInt(players, size, game.now.player);
            setInt(steps, size, game.steps);
        }

        void rollBack(Game game) {
            game.returnTo(longAt(boxes, size), intAt(players, size), intAt(steps, size));
        }

        void commit() {
            if (size < MOST_UNDONE) {
                size++;
            } else {
                forgetOldest();
            }
        }

        private void forgetOldest() {
            for (int i = 0; i < MOST_UNDONE; i++) {
                setLong(boxes, i, longAt(boxes, i + 1));
                setInt(players, i, intAt(players, i + 1));
                setInt(steps, i, intAt(steps, i + 1));
            }
        }

        /** Undoes the latest command; there must be one. */
        void goBack(Game game) {
            size--;
            rollBack(game);
        }
    }

    /** The positions that a search found, in this order, each with the push and the position it came from. */
    private static final class Search {
        private final Grid grid;
        private final long[] boxes;
        /** The lowest cells of the areas of the player. */
        private final int[] players;
        private final int[] parents;
        /** Four times the cell of the box, and the direction. */
        private final int[] pushes;
        /** Numbers of positions, from 1, by what they hold; 0 in a free slot. */
        private final int[] slots;
        private int limit;
        private boolean withTables;
        int found;
        int solved;
        boolean hasGivenUp;

        Search(Grid grid) {
            this.grid = grid;
            boxes = new long[MOST_LIMIT];
            players = new int[MOST_LIMIT];
            parents = new int[MOST_LIMIT];
            pushes = new int[MOST_LIMIT];
            slots = new int[SLOTS];
            limit = 0;
            withTables = false;
            found = 0;
            solved = NONE;
            hasGivenUp = false;
        }

        void run(Position start, int newLimit, boolean isWithTables) {
            limit = newLimit;
            withTables = isWithTables;
            found = 0;
            solved = NONE;
            hasGivenUp = false;
            for (int i = 0; i < SLOTS; i++) {
                setInt(slots, i, 0);
            }
            add(start.boxes, lowest(start.area()), NONE, 0);
            for (int i = 0; i < MOST_LIMIT && i < found && solved == NONE && !hasGivenUp; i++) {
                visit(i);
            }
        }

        private void visit(int number) {
            long present = longAt(boxes, number);
            if ((present & ~grid.goals) == 0) {
                solved = number;
                return;
            }
            long area = grid.spread(bit(intAt(players, number)), grid.open & ~present);
            for (int cell = 0; cell < CELLS; cell++) {
                if (has(present, cell)) {
                    for (int direction = 0; direction < DIRECTIONS && !hasGivenUp; direction++) {
                        lookAt(number, area, cell, direction);
                    }
                }
            }
        }

        private void lookAt(int number, long area, int cell, int direction) {
            long present = longAt(boxes, number);
            long box = bit(cell);
            long target = grid.moved(box, direction) & ~present;
            if (target == 0 || (grid.moved(box, opposite(direction)) & area) == 0) {
                return;
            }
            long after = present & ~box | target;
            if (withTables && grid.stuckReason(after) != 0) {
                return;
            }
            long areaAfter = grid.spread(box, grid.open & ~after);
            add(after, lowest(areaAfter), number, DIRECTIONS * cell + direction);
        }

        /** Adds a position if it was not found before, or gives up. */
        private void add(long newBoxes, int newPlayer, int parent, int push) {
            int slot = slotFor(newBoxes, newPlayer);
            if (intAt(slots, slot) != 0) {
                return;
            }
            if (found >= limit) {
                hasGivenUp = true;
                return;
            }
            setLong(boxes, found, newBoxes);
            setInt(players, found, newPlayer);
            setInt(parents, found, parent);
            setInt(pushes, found, push);
            found++;
            setInt(slots, slot, found);
        }

        /** The slot of a position, or the free one where it belongs. */
        private int slotFor(long someBoxes, int player) {
            int first = (int) (someBoxes * SPREAD >>> SPREAD_SHIFT) + player;
            for (int i = 0; i < SLOTS; i++) {
                int slot = first + i & SLOTS - 1;
                int number = intAt(slots, slot) - 1;
                if (number < 0 || longAt(boxes, number) == someBoxes && intAt(players, number) == player) {
                    return slot;
                }
            }
            return NONE;
        }

        int parentOf(int number) {
            return intAt(parents, number);
        }

        int pushTo(int number) {
            return intAt(pushes, number);
        }
    }

    /** The pushes of the solution that was kept last; NONE for their number before the first one. */
    private static final class Solution {
        private final int[] parts;
        int pushes;
        int positions;

        Solution() {
            parts = new int[MOST_LIMIT];
            pushes = NONE;
            positions = 0;
        }

        void keep(Search search) {
            positions = search.found;
            pushes = depthOf(search);
            int number = search.solved;
            for (int i = pushes - 1; i >= 0; i--) {
                setInt(parts, i, search.pushTo(number));
                number = search.parentOf(number);
            }
        }

        private static int depthOf(Search search) {
            int depth = 0;
            int number = search.parentOf(search.solved);
            while (number != NONE && depth < MOST_LIMIT) {
                depth++;
                number = search.parentOf(number);
            }
            return depth;
        }

        int cellAt(int i) {
            return intAt(parts, i) / DIRECTIONS;
        }

        int directionAt(int i) {
            return intAt(parts, i) % DIRECTIONS;
        }
    }
}
