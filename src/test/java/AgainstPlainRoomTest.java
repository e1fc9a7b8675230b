import java.util.ArrayList;
import java.util.List;
import java.util.concurrent.Callable;

/** Long runs of made-up calls, whose answers must be those of PlainRoom; the same runs each time. */
public final class AgainstPlainRoomTest {
    private static final int CALLS = 512;

    private final Check check;
    private final String name;
    private final PusherRoom room = new PusherRoom();
    private final PlainRoom plain = new PlainRoom();
    private final List<String> calls = new ArrayList<>();
    private long seed;

    private AgainstPlainRoomTest(Check check, int run) {
        this.check = check;
        name = "run " + run;
        seed = run * 7919L + 17;
    }

    public static void main(String[] args) {
        Check check = new Check();
        int runs = args.length > 1 ? Integer.parseInt(args[1]) : 1500;
        int first = args.length > 0 ? Integer.parseInt(args[0]) : 0;
        for (int run = first; run < first + runs; run++) {
            new AgainstPlainRoomTest(check, run).run(run % 5);
        }
        check.end("AgainstPlainRoomTest");
    }

    /** A number from 0 to less than a bound. */
    private int any(int bound) {
        seed = seed * 6364136223846793005L + 1442695040888963407L;
        return (int) ((seed >>> 33) % bound);
    }

    private boolean isOneIn(int bound) {
        return any(bound) == 0;
    }

    private String call(String what, Callable<?> want, Callable<?> got) {
        calls.add(what);
        String answer = Check.answerOf(want);
        int before = check.wrong();
        check.due(name + ", call " + calls.size() + ", " + what, answer, got);
        if (check.wrong() != before) {
            System.out.println("  in " + plain.picture());
        }
        return answer;
    }

    private void run(int kind) {
        for (int i = 0; i < 20 && isOneIn(2); i++) {
            anyCall();
        }
        while (calls.size() < CALLS - 120) {
            feedAll(isOneIn(8) ? spoiled(roomText(kind)) : likelyRoomText(kind));
            call("readRoom()", plain::readRoom, room::readRoom);
            int commands = plain.count(0) == 0 ? any(5) : kind == 4 ? 200 : 10 + any(100);
            for (int i = 0; i < commands && calls.size() < CALLS - 120; i++) {
                if (kind == 4 && isOneIn(4)) {
                    playToAndFro();
                }
                anyCall();
            }
            if (isOneIn(4)) {
                ask();
            }
        }
    }

    /** Fills the record: as many steps as an input can say, from a cell to a free one beside it and back. */
    private void playToAndFro() {
        for (int d = 0; d < 4 && plain.count(0) > 0; d++) {
            int n = next(plain.count(4), d, plain.count(1));
            if (n >= 0 && (plain.cells(3) >>> n & 1) != 0) {
                String pair = "" + "urdl".charAt(d) + "dlur".charAt(d);
                feedAll(pair.repeat(isOneIn(3) ? 1 + any(39) : 39));
                call("play()", plain::play, room::play);
                return;
            }
        }
    }

    private void feedAll(String text) {
        for (char c : text.toCharArray()) {
            call("feed('" + c + "')", () -> plain.feed(c), () -> room.feed(c));
        }
    }

    // ---- texts

    /** Mostly the text of a room that is not stuck and not solved. */
    private String likelyRoomText(int kind) {
        String text = roomText(kind);
        for (int i = 0; i < 100 && !isOneIn(20); i++) {
            if (isWorthPlaying(text)) {
                break;
            }
            text = roomText(kind);
        }
        return text;
    }

    private static boolean isWorthPlaying(String text) {
        PlainRoom scratch = new PlainRoom();
        for (char c : text.toCharArray()) {
            scratch.feed(c);
        }
        String answer = Check.answerOf(scratch::readRoom);
        return answer.matches("[0-9]+") && scratch.stuck(false) == 0 && scratch.count(10) == 0;
    }

    private String roomText(int kind) {
        int rows = 3 + any(kind == 1 ? 3 : 6);
        int columns = 3 + any(kind == 2 ? 3 : 6);
        boolean hasFrame = any(4) > 0 && rows + columns > 7;
        char[][] signs = new char[rows][columns];
        int wallsIn = isOneIn(3) ? 2 + any(4) : 6 + any(20);
        int goalsIn = kind == 3 ? 2 : isOneIn(3) ? 2 + any(12) : 12 + any(20);
        List<int[]> open = new ArrayList<>();
        for (int r = 0; r < rows; r++) {
            for (int c = 0; c < columns; c++) {
                boolean isFrame = hasFrame && (r == 0 || c == 0 || r == rows - 1 || c == columns - 1);
                signs[r][c] = isFrame || isOneIn(wallsIn) ? '#' : isOneIn(goalsIn) ? '.' : '-';
                if (signs[r][c] != '#') {
                    open.add(new int[] {r, c});
                }
            }
        }
        int boxes = 1 + any(isOneIn(2) ? 2 : 5);
        put(signs, open, 1, "-.", "@+");
        if (isOneIn(4)) {
            // Boxes away from the edge are not on dead cells so often.
            open.removeIf(p -> p[0] < 2 || p[1] < 2 || p[0] > rows - 3 || p[1] > columns - 3);
        }
        put(signs, open, boxes, "-.", "$*");
        put(signs, open, isOneIn(5) ? any(boxes + 2) : boxes + any(3), "-", ".");
        StringBuilder text = new StringBuilder();
        for (int r = 0; r < rows; r++) {
            text.append(r == 0 ? "" : "/").append(signs[r]);
        }
        return text.toString();
    }

    /** Changes signs on open cells, if they are one of some, to others. */
    private void put(char[][] signs, List<int[]> open, int number, String from, String to) {
        for (int i = 0; i < number && !open.isEmpty(); i++) {
            int[] place = open.get(any(open.size()));
            int which = from.indexOf(signs[place[0]][place[1]]);
            if (which >= 0) {
                signs[place[0]][place[1]] = to.charAt(which);
            }
        }
    }

    private String spoiled(String text) {
        int at = any(text.length());
        switch (any(4)) {
            case 0: return text.substring(0, at);
            case 1: return text.substring(0, at) + text.substring(at + 1);
            case 2: return text.substring(0, at) + "#-.$*@+/x 0".charAt(any(11)) + text.substring(at);
            default: return text.substring(0, at) + "#-.$*@+/x 0".charAt(any(11)) + text.substring(at + 1);
        }
    }

    /** Mostly steps that are not refused, from the present position. */
    private String stepsText() {
        boolean isWalk = isOneIn(2);
        long open = plain.cells(0);
        long boxes = plain.cells(2);
        int player = plain.count(4);
        int columns = plain.count(1);
        StringBuilder text = new StringBuilder();
        int most = isOneIn(3) ? 1 + any(78) : 1 + any(12);
        for (int i = 0; i < 200 && text.length() < most; i++) {
            int d = any(4);
            int times = isOneIn(5) ? 1 + any(12) : 1;
            int made = 0;
            boolean isPush = false;
            while (made < times) {
                int n = next(player, d, columns);
                boolean pushesNow = has(boxes, n);
                int beyond = next(n, d, columns);
                if (!has(open, n) || pushesNow && (isWalk || !has(open, beyond) || has(boxes, beyond))
                        || made > 0 && pushesNow != isPush) {
                    break;
                }
                isPush = pushesNow;
                boxes = isPush ? boxes & ~(1L << n) | 1L << beyond : boxes;
                player = n;
                made++;
            }
            if (made > 0) {
                text.append(made > 1 || isOneIn(20) ? String.valueOf(made) : "");
                text.append((isPush ? "URDL" : "urdl").charAt(d));
            }
        }
        if (isOneIn(6)) {
            text.append("urdlURDL".charAt(any(8)));
        }
        if (isOneIn(10) && text.length() > 0) {
            int at = any(text.length());
            text.setCharAt(at, Character.toLowerCase(text.charAt(at)));
        }
        if (isOneIn(12) && text.length() > 0) {
            text.setCharAt(any(text.length()), "0123456789urdlURDLx".charAt(any(19)));
        }
        return text.toString();
    }

    private static boolean has(long set, int cell) {
        return cell >= 0 && (set >>> cell & 1) != 0;
    }

    private int next(int cell, int direction, int columns) {
        if (cell < 0) {
            return -1;
        }
        int row = cell / columns + new int[] {-1, 0, 1, 0}[direction];
        int column = cell % columns + new int[] {0, 1, 0, -1}[direction];
        return row < 0 || row >= plain.count(0) || column < 0 || column >= columns ? -1 : row * columns + column;
    }

    // ---- calls

    private void anyCall() {
        switch (any(18)) {
            case 0: case 1: case 2: {
                int d = isOneIn(30) ? any(8) - 2 : any(4);
                call("step(" + d + ")", () -> plain.step(d), () -> room.step(d));
                break;
            }
            case 3: case 4: case 5: anyPush(); break;
            case 6: case 7:
                if (plain.count(0) > 0) {
                    feedAll(stepsText());
                }
                call("play()", plain::play, room::play);
                break;
            case 8: anySearch(); break;
            case 9: {
                int limit = anyLimit();
                call("finish(" + limit + ")", () -> plain.finish(limit), () -> room.finish(limit));
                askSolution();
                break;
            }
            case 10: case 11: call("undo()", plain::undo, room::undo); break;
            case 12:
                if (isOneIn(2)) {
                    call("saveSnapshot()", plain::saveSnapshot, room::saveSnapshot);
                } else if (isOneIn(2)) {
                    call("restoreSnapshot()", plain::restoreSnapshot, room::restoreSnapshot);
                }
                break;
            case 13:
                call("refusal(false)", () -> plain.refusal(false), () -> room.refusal(false));
                call("refusal(true)", () -> plain.refusal(true), () -> room.refusal(true));
                call("refused()", plain::refused, room::refused);
                break;
            case 14: {
                int c = isOneIn(2) ? any(128) : 32 + any(95);
                call("feed(" + c + ")", () -> plain.feed((char) c), () -> room.feed((char) c));
                if (isOneIn(2)) {
                    call("play()", plain::play, room::play);
                }
                break;
            }
            default: askOne(); break;
        }
    }

    private int anyLimit() {
        return isOneIn(12) ? any(5) - 2 : isOneIn(3) ? 900 + any(105) : 1 + any(200);
    }

    /** Mostly the cell of a box. */
    private int anyBox() {
        List<Integer> boxes = new ArrayList<>();
        for (int c = 0; c < 64 && plain.count(0) > 0; c++) {
            if ((plain.cells(2) >>> c & 1) != 0) {
                boxes.add(c);
            }
        }
        return boxes.isEmpty() || isOneIn(20) ? any(70) - 3 : boxes.get(any(boxes.size()));
    }

    private void anyPush() {
        int cell = anyBox();
        int d = isOneIn(40) ? any(8) - 2 : any(4);
        switch (any(3)) {
            case 0:
                call("push(" + cell + ", " + d + ")", () -> plain.push(cell, d), () -> room.push(cell, d));
                break;
            case 1:
                call("longPush(" + cell + ", " + d + ")", () -> plain.longPush(cell, d), () -> room.longPush(cell, d));
                break;
            default:
                call("refuses(" + cell + ", " + d + ")", () -> plain.refuses(cell, d), () -> room.refuses(cell, d));
                break;
        }
    }

    private void anySearch() {
        int limit = anyLimit();
        boolean withTables = isOneIn(2);
        call("solve(" + limit + ", " + withTables + ")", () -> plain.solve(limit, withTables),
                () -> room.solve(limit, withTables));
        askSolution();
    }

    private void askSolution() {
        int i = any(8) - 2;
        for (boolean isDirection : new boolean[] {false, true}) {
            call("solution(-1, " + isDirection + ")", () -> plain.solution(-1, isDirection),
                    () -> room.solution(-1, isDirection));
            call("solution(" + i + ", " + isDirection + ")", () -> plain.solution(i, isDirection),
                    () -> room.solution(i, isDirection));
        }
    }

    private void ask() {
        for (int what = -1; what <= 12; what++) {
            askCount(what);
            askCells(what);
        }
        for (int i = 0; i < 8; i++) {
            askOne();
        }
    }

    private void askCount(int what) {
        call("count(" + what + ")", () -> plain.count(what), () -> room.count(what));
    }

    private void askCells(int what) {
        call("cells(" + what + ")", () -> plain.cells(what), () -> room.cells(what));
    }

    private void askOne() {
        switch (any(9)) {
            case 0: askCount(any(12)); break;
            case 1: askCells(any(9)); break;
            case 2: {
                int row = any(10) - 1;
                int column = any(10) - 1;
                call("cell(" + row + ", " + column + ")", () -> plain.cell(row, column), () -> room.cell(row, column));
                break;
            }
            case 3: {
                int cell = any(66) - 1;
                int goal = isOneIn(2) ? -1 : any(68) - 2;
                call("distance(" + cell + ", " + goal + ")", () -> plain.distance(cell, goal),
                        () -> room.distance(cell, goal));
                break;
            }
            case 4: call("bound()", plain::bound, room::bound); break;
            case 5:
                call("stuck(false)", () -> plain.stuck(false), () -> room.stuck(false));
                call("stuck(true)", () -> plain.stuck(true), () -> room.stuck(true));
                break;
            case 6: {
                int number = any(4) - 1;
                int i = any(6) - 3;
                call("goalRoom(" + number + ", " + i + ")", () -> plain.goalRoom(number, i),
                        () -> room.goalRoom(number, i));
                break;
            }
            case 7: {
                int i = isOneIn(2) ? plain.count(5) - 1 - any(4) : any(30) - 1;
                call("recorded(" + i + ")", () -> plain.recorded(i), () -> room.recorded(i));
                break;
            }
            default: call("isReplayed()", plain::isReplayed, room::isReplayed); break;
        }
    }
}
