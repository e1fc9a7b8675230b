import java.util.Arrays;
import java.util.LinkedHashMap;
import java.util.List;
import java.util.Map;
import java.util.function.Supplier;

/** For each method: which of several exceptions is thrown, and that a call that throws leaves the state unchanged. */
final class ExceptionSentences extends RoomTests {
    private static final String SEVERAL = "If several exceptions apply, the one that is documented first is thrown.";
    private static final String UNCHANGED =
            "A method that throws an exception leaves the state unchanged unless its documentation says otherwise.";
    /** What stands in the input while a call throws that has nothing to do with it. */
    private static final String SOME_INPUT = "@-$./----/---";
    /** The box can go one cell on that is not dead, and can never come back: 2 positions with tables. */
    private static final String ONE_WAY = "########/#.-@$--#/########";

    /** A call that may throw. */
    private interface Call {
        Object of(PusherRoom x) throws Exception;
    }

    private final Sentences s;

    ExceptionSentences(Sentences s) {
        this.s = s;
    }

    void test() {
        severalOfRooms();
        severalOfSteps();
        severalOfPushes();
        severalOfTexts();
        severalOfSearches();
        roomsStay();
        roomsStayWithoutOne();
        stepsStay();
        pushesStay();
        textsStay();
        refusalsStay();
        searchesStay();
        recordsStay();
    }

    // ---- several exceptions

    private void severalOfRooms() {
        s.says("Description", SEVERAL);
        PusherRoom none = new PusherRoom();
        PusherRoom x = room(CORRIDOR);
        s.due("feed: a wrong code, and 80 characters", ARGUMENT, () -> {
            type(x, "-".repeat(80));
            return x.feed((char) 127);
        });
        s.due("cell: no room, and no such cell", STATE, () -> none.cell(-1, 8));
        s.due("cells: no room, and no such set", STATE, () -> none.cells(9));
        s.due("cells: no room, and no such set below", STATE, () -> none.cells(-1));
        s.due("distance: no room, and no such cell", STATE, () -> none.distance(-1, -1));
        s.due("distance: no room, and no such goal", STATE, () -> none.distance(0, -2));
        s.due("distance: no such cell, and no distance", INDEX, () -> x.distance(7, 12));
        s.due("distance: no such goal, and no distance to any", INDEX, () -> x.distance(8, 9));
        s.due("distance: no such goal below, and no distance to any", INDEX, () -> x.distance(8, -2));
        s.due("bound: no room, and no bound", STATE, none::bound);
        s.due("stuck: no room, and no detail", STATE, () -> none.stuck(true));
        s.due("goalRoom: no room, and no such goal room", STATE, () -> none.goalRoom(-1, 0));
        s.due("goalRoom: no room, and no such place", STATE, () -> none.goalRoom(0, -3));
    }

    private void severalOfSteps() {
        s.says("Description", SEVERAL);
        PusherRoom none = new PusherRoom();
        PusherRoom full = walked400();
        s.due("step: no such direction, and no room", ARGUMENT, () -> none.step(4));
        s.due("step: no such direction, and 400 steps", ARGUMENT, () -> full.step(-1));
        s.due("step: 400 steps, and refused", STATE, () -> full.step(0));
        s.due("step: then it is not kept for refusal", ELEMENT, () -> full.refusal(false));
    }

    private void severalOfPushes() {
        s.says("Description", SEVERAL);
        PusherRoom none = new PusherRoom();
        PusherRoom x = room(CORRIDOR);
        PusherRoom full = walked400();
        for (boolean isLong : new boolean[] {false, true}) {
            String name = isLong ? "longPush" : "push";
            s.due(name + ": no such direction, and no room", ARGUMENT, () -> push(none, isLong, 0, 4));
            s.due(name + ": no such direction, and no box", ARGUMENT, () -> push(x, isLong, 9, -1));
            s.due(name + ": no such direction, no room and no such cell", ARGUMENT, () -> push(none, isLong, -1, -1));
            s.due(name + ": no such direction, and a full record", ARGUMENT, () -> push(full, isLong, 18, 4));
            s.due(name + ": no room, and no box", STATE, () -> push(none, isLong, 99, 3));
            s.due(name + ": no box, and it would be refused", INDEX, () -> push(x, isLong, 9, 0));
            s.due(name + ": no box, and a full record", INDEX, () -> push(full, isLong, 17, 1));
            s.due(name + ": refused, and a full record", REFUSED, () -> push(full, isLong, 18, 3));
            s.due(name + ": then it is kept for refusal", "4 18", () -> refusal(full));
        }
        s.due("refuses: no such direction, and no room", ARGUMENT, () -> none.refuses(0, 4));
        s.due("refuses: no such direction, and no box", ARGUMENT, () -> x.refuses(9, -1));
        s.due("refuses: no room, and no box", STATE, () -> none.refuses(-1, 0));
    }

    private static int push(PusherRoom x, boolean isLong, int cell, int direction) {
        return isLong ? x.longPush(cell, direction) : x.push(cell, direction);
    }

    private void severalOfTexts() {
        s.says("Description", SEVERAL);
        PusherRoom full = walked400();
        s.due("play: no room, and a step would be refused", STATE, () -> play(new PusherRoom(), "u"));
        s.due("play: no room, and more than 400 steps", STATE, () -> play(new PusherRoom(), "99u".repeat(26)));
        s.due("play: refused, and more than 400 steps ahead", REFUSED, () -> play(full, "ru"));
        s.due("play: then it is kept for refused", "1 1 1", () -> full.refused() + " " + refusal(full));
        s.due("play: no room goes before a fault", STATE, () -> play(new PusherRoom(), "?"));
        s.due("play: a fault goes before more than 400 steps", "-101", () -> play(full, "r?"));
        s.due("readRoom: a fault goes before a wrong size", -104, () -> readAnew("@$./"));
    }

    private void severalOfSearches() {
        s.says("Description", SEVERAL);
        PusherRoom none = new PusherRoom();
        s.due("solve: limit out of range, and no room", ARGUMENT, () -> none.solve(0, true));
        s.due("solve: limit out of range, and it would give up", ARGUMENT, () -> room(SQUARE).solve(0, false));
        s.due("solve: limit out of range, and no solution", ARGUMENT, () -> room(HOPELESS).solve(1001, false));
        s.due("solve: no room, and no solution", STATE, () -> none.solve(1, true));
        s.due("solve: gives up, and no solution", ARITHMETIC, () -> room(ONE_WAY).solve(1, true));
        s.due("solve: no solution, if it does not give up", ELEMENT, () -> room(ONE_WAY).solve(2, true));
        s.due("finish: limit out of range, and no room", ARGUMENT, () -> none.finish(1001));
        s.due("finish: limit out of range, and it would give up", ARGUMENT, () -> room(SQUARE).finish(0));
        s.due("finish: limit out of range, and no solution", ARGUMENT, () -> room(HOPELESS).finish(-1));
        s.due("finish: limit out of range, and a full record", ARGUMENT, () -> walked400().finish(0));
        s.due("finish: no room, and no solution", STATE, () -> none.finish(1));
        s.due("finish: gives up, and no solution", ARITHMETIC, () -> room(ONE_WAY).finish(1));
        s.due("finish: no solution, if it does not give up", ELEMENT, () -> room(ONE_WAY).finish(2));
        s.due("solution: no solution was kept, and no such push", ELEMENT, () -> none.solution(-2, false));
    }

    // ---- the state stays

    /** No room, but an input. */
    private static PusherRoom none() {
        PusherRoom x = new PusherRoom();
        type(x, SOME_INPUT);
        return x;
    }

    /** Ten commands, a snapshot between them, a refused step of a text, a solution, and an input. */
    private static PusherRoom rich(String input) {
        PusherRoom x = room("-------/-@-----/--$-.--/-------/-------");
        play(x, "u2r");
        x.step(2);
        x.saveSnapshot();
        x.push(16, 2);
        x.step(1);
        play(x, "lu");
        for (int direction : new int[] {3, 2, 2, 1, 3}) {
            x.step(direction);
        }
        x.solve(1000, true);
        play(x, "9u");
        type(x, input);
        return x;
    }

    private static PusherRoom rich() {
        return rich(SOME_INPUT);
    }

    /** The player at the left edge. */
    private static PusherRoom atTheEdge() {
        PusherRoom x = rich();
        x.step(3);
        return x;
    }

    /** The box, 31, at the lower edge. */
    private static PusherRoom boxAtTheEdge() {
        PusherRoom x = rich();
        x.push(24, 2);
        return x;
    }

    /** 400 steps, a snapshot before them, a refused step of a text, a solution of another room, and an input. */
    private static PusherRoom full(String input) {
        PusherRoom x = room(CORRIDOR);
        x.solve(1000, true);
        read(x, LONG_WALK);
        x.saveSnapshot();
        play(x, "u");
        play(x, "7r7l".repeat(20));
        play(x, "7r7l".repeat(8));
        play(x, "4r4l");
        type(x, input);
        return x;
    }

    private static PusherRoom full() {
        return full(SOME_INPUT);
    }

    /** No solution and no bound, with commands, a snapshot, a solution of another room, and an input. */
    private static PusherRoom hopeless() {
        PusherRoom x = room(CORRIDOR);
        x.solve(1000, true);
        read(x, HOPELESS);
        x.step(0);
        x.saveSnapshot();
        x.step(1);
        play(x, "9d");
        type(x, SOME_INPUT);
        return x;
    }

    /** All that can be seen of an object, by parts; it is of no use afterwards. */
    private static Map<String, String> parts(PusherRoom x) {
        Map<String, String> parts = new LinkedHashMap<>();
        parts.put("room", room(x));
        parts.put("record", end(x) + Check.answerOf(x::isReplayed));
        parts.put("refusal", Check.answerOf(() -> refusal(x)));
        parts.put("refused", Check.answerOf(x::refused));
        parts.put("solution", Check.answerOf(() -> solution(x)) + Check.answerOf(() -> x.solution(-1, true)));
        parts.put("commands", x.count(7) + undone(x));
        int length = x.count(11);
        parts.put("snapshot", Check.answerOf(x::restoreSnapshot) + " " + room(x) + " " + end(x));
        parts.put("input", length + " " + Check.answerOf(x::readRoom) + " " + room(x));
        return parts;
    }

    private static String room(PusherRoom x) {
        StringBuilder text = new StringBuilder(picture(x));
        for (int what : new int[] {2, 3, 4, 8, 9, 10}) {
            text.append(' ').append(x.count(what));
        }
        for (int what = 3; what <= 6; what++) {
            int w = what;
            text.append(' ').append(Check.answerOf(() -> x.cells(w)));
        }
        return text.toString();
    }

    /** The latest steps that were recorded. */
    private static String end(PusherRoom x) {
        StringBuilder text = new StringBuilder();
        int steps = x.count(5);
        text.append(steps).append(' ').append(x.count(6)).append(' ');
        for (int i = Math.max(0, steps - 20); i < steps; i++) {
            text.append(x.recorded(i));
        }
        return text.toString();
    }

    private static String undone(PusherRoom x) {
        StringBuilder text = new StringBuilder();
        for (int i = 0; i < 9; i++) {
            text.append(' ').append(Check.answerOf(x::undo)).append(' ').append(x.count(4)).append(' ').append(x.count(5))
                    .append(' ').append(Check.answerOf(() -> x.cells(2)));
        }
        return text.toString();
    }

    /** Of two objects with the same calls one gets another call that throws: all but some parts must stay the same. */
    private void stays(String what, String want, Supplier<PusherRoom> maker, Call call, String... changed) {
        PusherRoom x = maker.get();
        s.due(what, want, () -> call.of(x));
        Map<String, String> after = parts(x);
        Map<String, String> before = parts(maker.get());
        List<String> free = Arrays.asList(changed);
        for (String part : before.keySet()) {
            if (!free.contains(part)) {
                s.due(what + ": " + part + " stays", before.get(part), () -> after.get(part));
            }
        }
    }

    private void roomsStay() {
        s.says("Description", UNCHANGED);
        stays("feed, a wrong code", ARGUMENT, ExceptionSentences::rich, x -> x.feed('\n'));
        stays("feed, 80 characters", STATE, () -> rich("-".repeat(80)), x -> x.feed('#'));
        stays("readRoom, a wrong size", ARITHMETIC, () -> rich("@$."), PusherRoom::readRoom, "input");
        stays("readRoom, no player", ARITHMETIC, () -> rich("-$./---/---"), PusherRoom::readRoom, "input");
        stays("readRoom, too few goals", ARITHMETIC, () -> rich("@$$/.--/---"), PusherRoom::readRoom, "input");
        stays("readRoom, a fault (no exception)", "-101", () -> rich("#?"), PusherRoom::readRoom, "input");
        stays("cell, no such cell", INDEX, ExceptionSentences::rich, x -> x.cell(5, 0));
        stays("cells, no such set", ARGUMENT, ExceptionSentences::rich, x -> x.cells(9));
        stays("count, no such count", ARGUMENT, ExceptionSentences::rich, x -> x.count(12));
        stays("distance, no such cell", INDEX, ExceptionSentences::rich, x -> x.distance(35, -1));
        stays("distance, no such goal", INDEX, ExceptionSentences::rich, x -> x.distance(16, 17));
        stays("distance, none", ELEMENT, ExceptionSentences::rich, x -> x.distance(0, -1));
        stays("bound, none", ELEMENT, ExceptionSentences::hopeless, PusherRoom::bound);
        stays("stuck, no detail", STATE, ExceptionSentences::rich, x -> x.stuck(true));
        stays("goalRoom, none", ELEMENT, ExceptionSentences::rich, x -> x.goalRoom(0, -1));
    }

    private void roomsStayWithoutOne() {
        s.says("Description", UNCHANGED);
        stays("cell, no room", STATE, ExceptionSentences::none, x -> x.cell(0, 0));
        stays("cells, no room", STATE, ExceptionSentences::none, x -> x.cells(0));
        stays("count, no room", ARGUMENT, ExceptionSentences::none, x -> x.count(-1));
        stays("distance, no room", STATE, ExceptionSentences::none, x -> x.distance(0, -1));
        stays("bound, no room", STATE, ExceptionSentences::none, PusherRoom::bound);
        stays("stuck, no room", STATE, ExceptionSentences::none, x -> x.stuck(false));
        stays("goalRoom, no room", STATE, ExceptionSentences::none, x -> x.goalRoom(0, -1));
        stays("step, no room", STATE, ExceptionSentences::none, x -> x.step(0));
        stays("push, no room", STATE, ExceptionSentences::none, x -> x.push(0, 0));
        stays("longPush, no room", STATE, ExceptionSentences::none, x -> x.longPush(0, 0));
        stays("refuses, no room", STATE, ExceptionSentences::none, x -> x.refuses(0, 0));
        stays("play, no room", STATE, ExceptionSentences::none, PusherRoom::play, "input");
        stays("solve, no room", STATE, ExceptionSentences::none, x -> x.solve(1, true));
        stays("finish, no room", STATE, ExceptionSentences::none, x -> x.finish(1));
        stays("isReplayed, no room", STATE, ExceptionSentences::none, PusherRoom::isReplayed);
        stays("undo, no room", STATE, ExceptionSentences::none, PusherRoom::undo);
        stays("saveSnapshot, no room", STATE, ExceptionSentences::none, PusherRoom::saveSnapshot);
        stays("restoreSnapshot, no room", STATE, ExceptionSentences::none, PusherRoom::restoreSnapshot);
        stays("refused, none", ELEMENT, ExceptionSentences::none, PusherRoom::refused);
        stays("refusal, none", ELEMENT, ExceptionSentences::none, x -> x.refusal(false));
        stays("refusal's detail, none", ELEMENT, ExceptionSentences::none, x -> x.refusal(true));
        stays("solution, none", ELEMENT, ExceptionSentences::none, x -> x.solution(-1, false));
        stays("recorded, none", INDEX, ExceptionSentences::none, x -> x.recorded(0));
    }

    private void stepsStay() {
        s.says("Description", UNCHANGED);
        stays("step, no such direction", ARGUMENT, ExceptionSentences::rich, x -> x.step(4));
        stays("step, 400 steps", STATE, ExceptionSentences::full, x -> x.step(1));
        stays("step, refused", REFUSED, ExceptionSentences::atTheEdge, x -> x.step(3), "refusal");
        stays("step, refused, a box", REFUSED, ExceptionSentences::boxAtTheEdge, x -> x.step(2), "refusal");
    }

    private void pushesStay() {
        s.says("Description", UNCHANGED);
        for (boolean isLong : new boolean[] {false, true}) {
            String name = isLong ? "longPush" : "push";
            stays(name + ", no such direction", ARGUMENT, ExceptionSentences::rich, x -> push(x, isLong, 24, 4));
            stays(name + ", no box", INDEX, ExceptionSentences::rich, x -> push(x, isLong, 23, 1));
            stays(name + ", refused", REFUSED, ExceptionSentences::boxAtTheEdge, x -> push(x, isLong, 31, 2), "refusal");
            stays(name + ", refused for 4", REFUSED, ExceptionSentences::boxAtTheEdge, x -> push(x, isLong, 31, 0), "refusal");
            stays(name + ", too many steps", ARITHMETIC, ExceptionSentences::full, x -> push(x, isLong, 18, 1));
        }
        stays("refuses, no such direction", ARGUMENT, ExceptionSentences::rich, x -> x.refuses(24, -1));
        stays("refuses, no box", INDEX, ExceptionSentences::rich, x -> x.refuses(25, 1));
        stays("refuses, a reason (no exception)", "4", ExceptionSentences::boxAtTheEdge, x -> x.refuses(31, 0));
    }

    private void textsStay() {
        s.says("Description", UNCHANGED);
        stays("play, refused", REFUSED, () -> rich("9l"), PusherRoom::play, "input", "refusal", "refused");
        stays("play, refused behind pushes", REFUSED, () -> rich("r2R9l"), PusherRoom::play, "input", "refusal", "refused");
        stays("play, refused at once", REFUSED, () -> rich("U"), PusherRoom::play, "input", "refusal", "refused");
        stays("play, refused behind 400 steps", REFUSED, () -> full("7rd"), PusherRoom::play, "input", "refusal", "refused");
        stays("play, too many steps", ARITHMETIC, () -> full("r"), PusherRoom::play, "input");
        stays("play, far too many steps", ARITHMETIC, () -> full("7r7l".repeat(20)), PusherRoom::play, "input");
        stays("play, a fault (no exception)", "-102", () -> rich("rr?"), PusherRoom::play, "input");
    }

    private void refusalsStay() {
        s.says("Description", UNCHANGED);
        stays("refused, none", ELEMENT, () -> {
            PusherRoom x = room(CORRIDOR);
            x.step(1);
            return x;
        }, PusherRoom::refused);
        stays("refusal, none", ELEMENT, () -> {
            PusherRoom x = room(CORRIDOR);
            x.step(1);
            return x;
        }, x -> x.refusal(true));
    }

    private void searchesStay() {
        s.says("Description", UNCHANGED);
        stays("solve, limit 0", ARGUMENT, ExceptionSentences::rich, x -> x.solve(0, true));
        stays("solve, limit 1001", ARGUMENT, ExceptionSentences::rich, x -> x.solve(1001, false));
        stays("solve, gives up", ARITHMETIC, ExceptionSentences::rich, x -> x.solve(5, false));
        stays("solve, no solution", ELEMENT, ExceptionSentences::hopeless, x -> x.solve(1000, false));
        stays("solution, no such push", ELEMENT, ExceptionSentences::rich, x -> x.solution(2, false));
        stays("solution, no such push below", ELEMENT, ExceptionSentences::rich, x -> x.solution(-2, true));
        stays("finish, limit 0", ARGUMENT, ExceptionSentences::rich, x -> x.finish(0));
        stays("finish, gives up", ARITHMETIC, ExceptionSentences::rich, x -> x.finish(1));
        stays("finish, no solution", ELEMENT, ExceptionSentences::hopeless, x -> x.finish(1000));
        stays("finish, too many steps", ARITHMETIC, ExceptionSentences::full, x -> x.finish(1000), "solution");
    }

    private void recordsStay() {
        s.says("Description", UNCHANGED);
        stays("recorded, no such step", INDEX, ExceptionSentences::rich, x -> x.recorded(14));
        stays("recorded, no such step below", INDEX, ExceptionSentences::rich, x -> x.recorded(-1));
        stays("undo, nothing to undo", STATE, () -> {
            PusherRoom x = rich();
            x.restoreSnapshot();
            return x;
        }, PusherRoom::undo);
        stays("restoreSnapshot, none was saved", STATE, () -> {
            PusherRoom x = room(CORRIDOR);
            x.step(1);
            x.step(1);
            type(x, SOME_INPUT);
            return x;
        }, PusherRoom::restoreSnapshot);
    }
}
