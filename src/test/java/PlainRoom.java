import java.util.ArrayList;
import java.util.Arrays;
import java.util.HashMap;
import java.util.HashSet;
import java.util.LinkedHashMap;
import java.util.List;
import java.util.Map;
import java.util.NoSuchElementException;
import java.util.Set;
import java.util.TreeSet;
import java.util.regex.Matcher;
import java.util.regex.Pattern;

/**
 * The document once more in another way, to compare with: cells by row and column, sets of the library,
 * definitions tried out one by one, and copies of the whole state where the program keeps little.
 */
final class PlainRoom {
    private static final int[] DOWNWARD = {-1, 0, 1, 0};
    private static final int[] RIGHTWARD = {0, 1, 0, -1};

    /** All that a snapshot saves. */
    private static final class State {
        char[][] ground = new char[0][0];
        Set<Integer> boxes = new TreeSet<>();
        int player = 0;
        Set<Integer> firstBoxes = new TreeSet<>();
        int firstPlayer = 0;
        String record = "";

        State copy() {
            State s = new State();
            s.ground = ground;
            s.boxes = new TreeSet<>(boxes);
            s.player = player;
            s.firstBoxes = firstBoxes;
            s.firstPlayer = firstPlayer;
            s.record = record;
            return s;
        }
    }

    private static final class Refusal extends RuntimeException {
        private static final long serialVersionUID = 1L;
        final int reason;
        final int detail;

        Refusal(int reason, int detail) {
            this.reason = reason;
            this.detail = detail;
        }
    }

    private State state = new State();
    private State snapshot = null;
    private String input = "";
    private final List<State> undoable = new ArrayList<>();
    private Refusal kept = null;
    private int keptStep = -1;
    private List<int[]> keptSolution = null;
    private int keptPositions = 0;

    // ---- the room

    int feed(char c) {
        if (c < 32 || c > 126) {
            throw new IllegalArgumentException();
        }
        if (input.length() == 80) {
            throw new IllegalStateException();
        }
        input += c;
        return input.length();
    }

    /** Whether a text is the beginning of some room's text, or, if it must be whole, such a text. */
    private static boolean isRoomText(String text, boolean isWhole) {
        if (!text.matches("[-#.$*@+/]*")) {
            return false;
        }
        if (text.replaceAll("[^@+]", "").length() > 1 || text.replaceAll("[^$*]", "").length() > 5) {
            return false;
        }
        String[] rows = text.split("/", -1);
        for (int i = 0; i < rows.length; i++) {
            boolean isLast = i == rows.length - 1;
            boolean mayBeShort = isLast && !isWhole;
            int want = rows[0].length();
            if (rows[i].length() > want || rows[i].length() < want && !mayBeShort) {
                return false;
            }
            if (rows[i].isEmpty() && !mayBeShort) {
                return false;
            }
        }
        return true;
    }

    int readRoom() {
        String text = input;
        input = "";
        for (int i = 0; i < text.length(); i++) {
            if (!isRoomText(text.substring(0, i + 1), false)) {
                return -100 - i;
            }
        }
        if (!isRoomText(text, true)) {
            return -100 - text.length();
        }
        String[] rows = text.split("/");
        int goals = text.replaceAll("[^.*+]", "").length();
        int boxes = text.replaceAll("[^$*]", "").length();
        boolean hasPlayer = text.contains("@") || text.contains("+");
        if (rows.length < 3 || rows.length > 8 || rows[0].length() < 3 || rows[0].length() > 8
                || !hasPlayer || boxes == 0 || goals < boxes) {
            throw new ArithmeticException();
        }
        State s = new State();
        s.ground = new char[rows.length][];
        for (int r = 0; r < rows.length; r++) {
            s.ground[r] = rows[r].replaceAll("[$@]", "-").replaceAll("[*+]", ".").toCharArray();
            for (int c = 0; c < rows[r].length(); c++) {
                char sign = rows[r].charAt(c);
                if (sign == '$' || sign == '*') {
                    s.boxes.add(r * rows[0].length() + c);
                }
                if (sign == '@' || sign == '+') {
                    s.player = r * rows[0].length() + c;
                }
            }
        }
        s.firstBoxes = new TreeSet<>(s.boxes);
        s.firstPlayer = s.player;
        state = s;
        undoable.clear();
        return text.replaceAll("[#/]", "").length();
    }

    private boolean hasRoom() {
        return state.ground.length > 0;
    }

    private void needRoom() {
        if (!hasRoom()) {
            throw new IllegalStateException();
        }
    }

    private int columns() {
        return hasRoom() ? state.ground[0].length : 0;
    }

    private int size() {
        return state.ground.length * columns();
    }

    private char ground(int cell) {
        return cell < 0 || cell >= size() ? '#' : state.ground[cell / columns()][cell % columns()];
    }

    private boolean isOpen(int cell) {
        return ground(cell) != '#';
    }

    private boolean isGoal(int cell) {
        return ground(cell) == '.';
    }

    /** The neighbor of a cell, -1 beyond the edge. */
    private int next(int cell, int direction) {
        int row = cell / columns() + DOWNWARD[direction];
        int column = cell % columns() + RIGHTWARD[direction];
        return row < 0 || row >= state.ground.length || column < 0 || column >= columns() ? -1 : row * columns() + column;
    }

    private static int back(int direction) {
        return new int[] {2, 3, 0, 1}[direction];
    }

    private List<Integer> goals() {
        List<Integer> list = new ArrayList<>();
        for (int c = 0; c < size(); c++) {
            if (isGoal(c)) {
                list.add(c);
            }
        }
        return list;
    }

    char cell(int row, int column) {
        needRoom();
        if (row < 0 || row >= state.ground.length || column < 0 || column >= columns()) {
            throw new IndexOutOfBoundsException();
        }
        int cell = row * columns() + column;
        String signs = state.boxes.contains(cell) ? "$*" : state.player == cell ? "@+" : "-.";
        return !isOpen(cell) ? '#' : signs.charAt(isGoal(cell) ? 1 : 0);
    }

    long cells(int what) {
        needRoom();
        if (what < 0 || what > 8) {
            throw new IllegalArgumentException();
        }
        long set = 0;
        Set<Integer> area = area(state.player, state.boxes);
        Set<Integer> frozen = frozen(state.boxes);
        for (int c = 0; c < size(); c++) {
            boolean[] is = {isOpen(c), isGoal(c), state.boxes.contains(c), area.contains(c), isDead(c), frozen.contains(c),
                isTunnel(c, 1), isTunnel(c, 0), state.boxes.contains(c) && isGoal(c)};
            if (is[what]) {
                set |= 1L << c;
            }
        }
        return set;
    }

    private Set<Integer> area(int from, Set<Integer> boxes) {
        Set<Integer> area = new TreeSet<>();
        fill(from, boxes, area);
        return area;
    }

    private void fill(int cell, Set<Integer> boxes, Set<Integer> area) {
        if (isOpen(cell) && !boxes.contains(cell) && area.add(cell)) {
            for (int d = 0; d < 4; d++) {
                fill(next(cell, d), boxes, area);
            }
        }
    }

    private Map<Integer, Map<Integer, Integer>> distancesFrom = new HashMap<>();
    private char[][] distancesOf = null;

    /** The distances of a cell to all cells where lone pushes take a box from it. */
    private Map<Integer, Integer> distances(int cell) {
        if (distancesOf != state.ground) {
            distancesFrom = new HashMap<>();
            distancesOf = state.ground;
        }
        return distancesFrom.computeIfAbsent(cell, this::measure);
    }

    private Map<Integer, Integer> measure(int cell) {
        Map<Integer, Integer> distance = new LinkedHashMap<>();
        distance.put(cell, 0);
        List<Integer> queue = new ArrayList<>(List.of(cell));
        for (int i = 0; i < queue.size(); i++) {
            int c = queue.get(i);
            for (int d = 0; d < 4; d++) {
                int to = next(c, d);
                if (isOpen(to) && isOpen(next(c, back(d))) && !distance.containsKey(to)) {
                    distance.put(to, distance.get(c) + 1);
                    queue.add(to);
                }
            }
        }
        return distance;
    }

    private Map<Integer, Boolean> dead = new HashMap<>();
    private char[][] deadOf = null;

    private boolean isDead(int cell) {
        if (deadOf != state.ground) {
            dead = new HashMap<>();
            deadOf = state.ground;
        }
        return isOpen(cell)
                && dead.computeIfAbsent(cell, c -> distances(c).keySet().stream().noneMatch(this::isGoal));
    }

    /** The union of all sets that are as the document says: the greatest one. */
    private Set<Integer> frozen(Set<Integer> boxes) {
        List<Integer> all = new ArrayList<>(boxes);
        Set<Integer> union = new TreeSet<>();
        for (int choice = 0; choice < 1 << all.size(); choice++) {
            Set<Integer> some = new HashSet<>();
            for (int i = 0; i < all.size(); i++) {
                if ((choice >> i & 1) != 0) {
                    some.add(all.get(i));
                }
            }
            if (some.stream().allMatch(b -> isBlocked(b, 0, some) && isBlocked(b, 1, some))) {
                union.addAll(some);
            }
        }
        return union;
    }

    private boolean isBlocked(int box, int direction, Set<Integer> frozen) {
        int one = next(box, direction);
        int other = next(box, back(direction));
        return !isOpen(one) || !isOpen(other) || frozen.contains(one) || frozen.contains(other)
                || isDead(one) && isDead(other);
    }

    private boolean isTunnel(int cell, int direction) {
        int turned = (direction + 1) % 4;
        return isOpen(cell) && !isGoal(cell) && !isOpen(next(cell, turned)) && !isOpen(next(cell, back(turned)));
    }

    private boolean isSolved(Set<Integer> boxes) {
        return boxes.stream().allMatch(this::isGoal);
    }

    int count(int what) {
        switch (what) {
            case 0: return state.ground.length;
            case 1: return columns();
            case 2: return state.boxes.size();
            case 3: return goals().size();
            case 4: return state.player;
            case 5: return state.record.length();
            case 6: return state.record.replaceAll("[urdl]", "").length();
            case 7: return undoable.size();
            case 8: return groups();
            case 9: return goalRooms().size();
            case 10: return hasRoom() && isSolved(state.boxes) ? 1 : 0;
            case 11: return input.length();
            default: throw new IllegalArgumentException();
        }
    }

    private int groups() {
        Set<Set<Integer>> groups = new HashSet<>();
        for (int c = 0; c < size(); c++) {
            if (isOpen(c) && !state.boxes.contains(c)) {
                groups.add(area(c, state.boxes));
            }
        }
        return groups.size();
    }

    int distance(int cell, int goal) {
        needRoom();
        if (cell < 0 || cell >= size() || !isOpen(cell) || goal != -1 && (goal < 0 || !isGoal(goal))) {
            throw new IndexOutOfBoundsException();
        }
        return distances(cell).entrySet().stream()
                .filter(e -> goal == -1 ? isGoal(e.getKey()) : e.getKey() == goal)
                .mapToInt(Map.Entry::getValue).min().orElseThrow(NoSuchElementException::new);
    }

    int bound() {
        needRoom();
        int least = leastSum(new ArrayList<>(state.boxes), goals(), 0, 0, 0L);
        if (least == Integer.MAX_VALUE) {
            throw new NoSuchElementException();
        }
        return least;
    }

    private int leastSum(List<Integer> boxes, List<Integer> goals, int i, int sum, long used) {
        if (i == boxes.size()) {
            return sum;
        }
        int least = Integer.MAX_VALUE;
        for (int g = 0; g < goals.size(); g++) {
            Integer d = distances(boxes.get(i)).get(goals.get(g));
            if (d != null && (used >> g & 1) == 0) {
                least = Math.min(least, leastSum(boxes, goals, i + 1, sum + d, used | 1L << g));
            }
        }
        return least;
    }

    int stuck(boolean isDetail) {
        needRoom();
        int[] stuck = stuckness(state.boxes);
        if (isDetail && stuck[0] == 0) {
            throw new IllegalStateException();
        }
        return stuck[isDetail ? 1 : 0];
    }

    private int[] stuckness(Set<Integer> boxes) {
        for (int b : boxes) {
            if (isDead(b)) {
                return new int[] {1, b};
            }
        }
        for (int b : frozen(boxes)) {
            if (!isGoal(b)) {
                return new int[] {2, b};
            }
        }
        return new int[] {0, 0};
    }

    /** Of each goal room the entrance, and the goals in their order. */
    private List<List<Integer>> goalRooms() {
        List<List<Integer>> rooms = new ArrayList<>();
        Set<Integer> others = new HashSet<>();
        for (int c = 0; c < size(); c++) {
            if (!isGoal(c)) {
                others.add(c);
            }
        }
        Set<Integer> seen = new HashSet<>();
        for (int g : goals()) {
            if (seen.contains(g)) {
                continue;
            }
            Set<Integer> group = area(g, others);
            seen.addAll(group);
            Set<Integer> entrances = new TreeSet<>();
            for (int c : group) {
                for (int d = 0; d < 4; d++) {
                    int n = next(c, d);
                    if (isOpen(n) && !isGoal(n)) {
                        entrances.add(n);
                    }
                }
            }
            if (entrances.size() == 1) {
                int entrance = entrances.iterator().next();
                List<Integer> room = new ArrayList<>(group);
                room.sort((a, b) -> steps(entrance, a) != steps(entrance, b)
                        ? steps(entrance, b) - steps(entrance, a) : a - b);
                room.add(0, entrance);
                rooms.add(room);
            }
        }
        return rooms;
    }

    private int steps(int from, int to) {
        return way(from, to, Set.of()).length();
    }

    int goalRoom(int room, int i) {
        needRoom();
        List<List<Integer>> rooms = goalRooms();
        if (room < 0 || room >= rooms.size() || i < -2 || i >= rooms.get(room).size() - 1) {
            throw new NoSuchElementException();
        }
        return i == -2 ? rooms.get(room).size() - 1 : rooms.get(room).get(i + 1);
    }

    // ---- commands

    /** The first of the shortest ways as letters, null if there is none. */
    private String way(int from, int to, Set<Integer> boxes) {
        Map<Integer, String> ways = new LinkedHashMap<>();
        ways.put(from, "");
        for (int length = 0; length <= size(); length++) {
            Map<Integer, String> more = new LinkedHashMap<>(ways);
            for (Map.Entry<Integer, String> e : ways.entrySet()) {
                for (int d = 0; d < 4 && e.getValue().length() == length; d++) {
                    int n = next(e.getKey(), d);
                    String way = e.getValue() + d;
                    if (isOpen(n) && !boxes.contains(n) && !ways.containsKey(n)
                            && (!more.containsKey(n) || way.compareTo(more.get(n)) < 0)) {
                        more.put(n, way);
                    }
                }
            }
            ways = more;
        }
        String numbers = ways.get(to);
        return numbers == null ? null
                : numbers.replace('0', 'u').replace('1', 'r').replace('2', 'd').replace('3', 'l');
    }

    /** Makes the step of a letter, or any step in its direction if the letter does not matter. */
    private void go(char letter, boolean letterMatters) {
        int direction = "urdl".indexOf(Character.toLowerCase(letter));
        int n = next(state.player, direction);
        if (!isOpen(n)) {
            throw new Refusal(1, state.player);
        }
        boolean isPush = state.boxes.contains(n);
        if (isPush) {
            int beyond = next(n, direction);
            if (!isOpen(beyond)) {
                throw new Refusal(2, n);
            }
            if (state.boxes.contains(beyond)) {
                throw new Refusal(3, beyond);
            }
        }
        if (letterMatters && isPush != Character.isUpperCase(letter)) {
            throw new Refusal(isPush ? 5 : 6, state.player);
        }
        if (isPush) {
            state.boxes.remove(n);
            state.boxes.add(next(n, direction));
        }
        state.player = n;
        char made = "urdl".charAt(direction);
        state.record += isPush ? Character.toUpperCase(made) : made;
    }

    private void checkPush(int cell, int direction) {
        int behind = next(cell, back(direction));
        if (!area(state.player, state.boxes).contains(behind)) {
            throw new Refusal(4, cell);
        }
        int beyond = next(cell, direction);
        if (!isOpen(beyond)) {
            throw new Refusal(2, cell);
        }
        if (state.boxes.contains(beyond)) {
            throw new Refusal(3, beyond);
        }
    }

    private void goPush(int cell, int direction) {
        checkPush(cell, direction);
        for (char letter : way(state.player, next(cell, back(direction)), state.boxes).toCharArray()) {
            go(letter, true);
        }
        go("URDL".charAt(direction), true);
    }

    private void keep(Refusal refusal) {
        kept = refusal;
        throw new UnsupportedOperationException();
    }

    /** Ends a command that began with a state: it stays if the record is not too long. */
    private void end(State before) {
        if (state.record.length() > 400) {
            state = before;
            throw new ArithmeticException();
        }
        undoable.add(before);
        if (undoable.size() > 8) {
            undoable.remove(0);
        }
    }

    private static void needDirection(int direction) {
        if (direction < 0 || direction > 3) {
            throw new IllegalArgumentException();
        }
    }

    private void needBox(int cell, int direction) {
        needDirection(direction);
        needRoom();
        if (!state.boxes.contains(cell)) {
            throw new IndexOutOfBoundsException();
        }
    }

    int step(int direction) {
        needDirection(direction);
        needRoom();
        if (state.record.length() == 400) {
            throw new IllegalStateException();
        }
        State before = state.copy();
        try {
            go("urdl".charAt(direction), false);
        } catch (Refusal r) {
            keep(r);
        }
        end(before);
        return before.boxes.equals(state.boxes) ? 0 : 1;
    }

    int push(int cell, int direction) {
        needBox(cell, direction);
        State before = state.copy();
        try {
            goPush(cell, direction);
        } catch (Refusal r) {
            keep(r);
        }
        end(before);
        return state.record.length() - before.record.length();
    }

    int longPush(int cell, int direction) {
        needBox(cell, direction);
        State before = state.copy();
        int pushes = 0;
        try {
            int box = cell;
            while (true) {
                goPush(box, direction);
                pushes++;
                box = next(box, direction);
                if (!isTunnel(box, direction)) {
                    break;
                }
            }
        } catch (Refusal r) {
            if (pushes == 0) {
                keep(r);
            }
        }
        end(before);
        return pushes;
    }

    int play() {
        String text = input;
        input = "";
        needRoom();
        Pattern element = Pattern.compile("([1-9][0-9]?)?([urdlURDL])");
        StringBuilder letters = new StringBuilder();
        int at = 0;
        Matcher matcher = element.matcher(text);
        while (at < text.length() && matcher.find(at) && matcher.start() == at) {
            letters.append(matcher.group(2).repeat(matcher.group(1) == null ? 1 : Integer.parseInt(matcher.group(1))));
            at = matcher.end();
        }
        if (at < text.length() || text.isEmpty()) {
            Matcher number = Pattern.compile("([1-9][0-9]?)?").matcher(text.substring(at));
            number.lookingAt();
            return -100 - at - number.end();
        }
        State before = state.copy();
        try {
            for (char letter : letters.toString().toCharArray()) {
                go(letter, true);
            }
        } catch (Refusal r) {
            keptStep = state.record.length() - before.record.length();
            state = before;
            keep(r);
        }
        end(before);
        return letters.length();
    }

    int refused() {
        if (keptStep < 0) {
            throw new NoSuchElementException();
        }
        return keptStep;
    }

    int refusal(boolean isDetail) {
        if (kept == null) {
            throw new NoSuchElementException();
        }
        return isDetail ? kept.detail : kept.reason;
    }

    int refuses(int cell, int direction) {
        needBox(cell, direction);
        try {
            checkPush(cell, direction);
            return 0;
        } catch (Refusal r) {
            return r.reason;
        }
    }

    // ---- search

    /** A position that was found: boxes, area, and the pushes that led to it. */
    private static final class Found {
        final Set<Integer> boxes;
        final Set<Integer> area;
        final List<int[]> pushes;

        Found(Set<Integer> boxes, Set<Integer> area, List<int[]> pushes) {
            this.boxes = boxes;
            this.area = area;
            this.pushes = pushes;
        }
    }

    private static String keyOf(Found position) {
        return position.boxes + " " + position.area.iterator().next();
    }

    int solve(int limit, boolean withTables) {
        if (limit < 1 || limit > 1000) {
            throw new IllegalArgumentException();
        }
        needRoom();
        List<Found> found = new ArrayList<>();
        Set<String> keys = new HashSet<>();
        found.add(new Found(new TreeSet<>(state.boxes), area(state.player, state.boxes), List.of()));
        keys.add(keyOf(found.get(0)));
        for (int i = 0; i < found.size(); i++) {
            Found position = found.get(i);
            if (isSolved(position.boxes)) {
                keptSolution = position.pushes;
                keptPositions = found.size();
                return keptSolution.size();
            }
            for (int box : position.boxes) {
                for (int d = 0; d < 4; d++) {
                    Found after = after(position, box, d);
                    if (after == null || withTables && stuckness(after.boxes)[0] != 0 || keys.contains(keyOf(after))) {
                        continue;
                    }
                    if (found.size() == limit) {
                        throw new ArithmeticException();
                    }
                    keys.add(keyOf(after));
                    found.add(after);
                }
            }
        }
        throw new NoSuchElementException();
    }

    private Found after(Found position, int box, int direction) {
        int to = next(box, direction);
        if (!position.area.contains(next(box, back(direction))) || !isOpen(to) || position.boxes.contains(to)) {
            return null;
        }
        Set<Integer> boxes = new TreeSet<>(position.boxes);
        boxes.remove(box);
        boxes.add(to);
        List<int[]> pushes = new ArrayList<>(position.pushes);
        pushes.add(new int[] {box, direction});
        return new Found(boxes, area(box, boxes), pushes);
    }

    int solution(int i, boolean isDirection) {
        if (keptSolution == null || i < -1 || i >= keptSolution.size()) {
            throw new NoSuchElementException();
        }
        return i == -1 ? isDirection ? keptPositions : keptSolution.size() : keptSolution.get(i)[isDirection ? 1 : 0];
    }

    int finish(int limit) {
        solve(limit, true);
        State before = state.copy();
        for (int[] push : keptSolution) {
            goPush(push[0], push[1]);
        }
        end(before);
        return state.record.length() - before.record.length();
    }

    // ---- records, undo, snapshot

    char recorded(int i) {
        if (i < 0 || i >= state.record.length()) {
            throw new IndexOutOfBoundsException();
        }
        return state.record.charAt(i);
    }

    boolean isReplayed() {
        needRoom();
        State present = state;
        state = present.copy();
        state.boxes = new TreeSet<>(present.firstBoxes);
        state.player = present.firstPlayer;
        state.record = "";
        for (char letter : present.record.toCharArray()) {
            go(letter, true);
        }
        boolean isSame = state.boxes.equals(present.boxes) && state.player == present.player
                && state.record.equals(present.record);
        state = present;
        return isSame;
    }

    int undo() {
        if (undoable.isEmpty()) {
            throw new IllegalStateException();
        }
        state = undoable.remove(undoable.size() - 1);
        return undoable.size();
    }

    int saveSnapshot() {
        needRoom();
        snapshot = state.copy();
        return state.record.length();
    }

    int restoreSnapshot() {
        if (snapshot == null) {
            throw new IllegalStateException();
        }
        state = snapshot.copy();
        undoable.clear();
        return state.record.length();
    }

    /** The state as a text, to see where two objects parted. */
    String picture() {
        StringBuilder text = new StringBuilder();
        for (int r = 0; r < state.ground.length; r++) {
            for (int c = 0; c < columns(); c++) {
                text.append(cell(r, c));
            }
            text.append('/');
        }
        return text.append(' ').append(state.record).append(' ').append(Arrays.toString(input.toCharArray())).toString();
    }
}
