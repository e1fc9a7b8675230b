/** The document's sentences about commands, and promises 21 to 25. */
final class RecordSentences extends RoomTests {
    /** A box in the middle of 5 rows and 5 columns, the player in the first corner. */
    private static final String MIDDLE = "@----/-----/--$--/-----/----.";

    private final Sentences s;

    RecordSentences(Sentences s) {
        this.s = s;
    }

    void test() {
        commands();
        noCommands();
        fourHundred();
        latestEight();
        eightAfterUndo();
        refusalsAreKept();
        keptThingsStay();
        face();
        recorded();
        isReplayed();
        undo();
        undoOfEach();
        saveSnapshot();
        restoreSnapshot();
        callNumber512();
    }

    private void commands() {
        s.says("Description", "The successful calls of step, push, longPush, play and finish are commands, also one of finish "
                + "that needs no steps; their steps are recorded, at most 400 since the room was read.");
        PusherRoom x = room(LONG_WALK);
        x.step(1);
        s.due("step", "1 r", () -> x.count(7) + " " + record(x));
        play(x, "rll");
        s.due("play", "2 rrll", () -> x.count(7) + " " + record(x));
        x.push(18, 1);
        s.due("push", "3 rrllddrR", () -> x.count(7) + " " + record(x));
        x.longPush(19, 1);
        s.due("longPush", "4 rrllddrRRRR", () -> x.count(7) + " " + record(x));
        x.undo();
        x.finish(1000);
        s.due("finish", "4 rrllddrRRRR", () -> x.count(7) + " " + record(x));
        x.finish(1000);
        s.due("finish without steps", "5 rrllddrRRRR", () -> x.count(7) + " " + record(x));
        s.due("it is undone by itself", "4 rrllddrRRRR", () -> x.undo() + " " + record(x));
    }

    private void noCommands() {
        PusherRoom x = room(CORRIDOR);
        x.step(1);
        s.due("a step that is refused", "UnsupportedOperationException 1",
                () -> Check.answerOf(() -> x.step(0)) + " " + x.count(7));
        s.due("a push that is refused", "UnsupportedOperationException 1",
                () -> Check.answerOf(() -> x.push(10, 0)) + " " + x.count(7));
        s.due("a long push that is refused", "UnsupportedOperationException 1",
                () -> Check.answerOf(() -> x.longPush(10, 0)) + " " + x.count(7));
        s.due("a text that is refused", "UnsupportedOperationException 1", () -> play(x, "lu") + " " + x.count(7));
        s.due("a text with a fault", "-101 1", () -> play(x, "l?") + " " + x.count(7));
        s.due("a search", "2 1", () -> x.solve(1000, true) + " " + x.count(7));
        s.due("finish that gives up", "ArithmeticException 1", () -> Check.answerOf(() -> x.finish(1)) + " " + x.count(7));
        s.due("a snapshot", "1 1", () -> x.saveSnapshot() + " " + x.count(7));
        s.due("what would be refused", "4 1", () -> x.refuses(10, 0) + " " + x.count(7));
        s.due("their steps are not recorded", "r", () -> record(x));
        PusherRoom y = walked400();
        s.due("beyond 400: a text", "ArithmeticException 3", () -> play(y, "r") + " " + y.count(7));
        s.due("beyond 400: a step", "IllegalStateException 3", () -> Check.answerOf(() -> y.step(1)) + " " + y.count(7));
        s.due("beyond 400: a push", "ArithmeticException 3", () -> Check.answerOf(() -> y.push(18, 1)) + " " + y.count(7));
        s.due("beyond 400: finish", "ArithmeticException 3", () -> Check.answerOf(() -> y.finish(1000)) + " " + y.count(7));
    }

    private void fourHundred() {
        PusherRoom x = walked392();
        s.due("392 and 8 steps", "8 400", () -> play(x, "4r4l") + " " + x.count(5));
        s.due("the first and the last", "r l", () -> x.recorded(0) + " " + x.recorded(399));
        s.due("one more", STATE, () -> x.step(1));
        s.due("another room begins anew", "24 0", () -> read(x, LONG_WALK.replace("#", "-")) + " " + x.count(5));
        s.due("a step there", "0 1", () -> x.step(1) + " " + x.count(5));
    }

    private void latestEight() {
        s.says("Description", "The latest 8 commands can be undone.");
        PusherRoom x = room(MIDDLE);
        int[] directions = {1, 1, 2, 2, 3, 3, 2, 1, 1, 0};
        String[] places = new String[10];
        for (int i = 0; i < 10; i++) {
            places[i] = places(x);
            int want = Math.min(i, 8);
            s.due("after " + i + " commands", want, () -> x.count(7));
            x.step(directions[i]);
        }
        s.due("after 10 commands", "8 rrdDlldrRu", () -> x.count(7) + " " + record(x));
        for (int i = 9; i >= 2; i--) {
            int left = i - 2;
            String want = left + " " + places[i];
            s.due("command " + i + " is undone", want, () -> x.undo() + " " + places(x));
        }
        s.due("a ninth one", STATE, x::undo);
        s.due("the first two stay", "rr", () -> record(x));
    }

    /** Where player and boxes are, and the number of steps. */
    private static String places(PusherRoom x) {
        return x.count(4) + " " + x.cells(2) + " " + x.count(5);
    }

    private void eightAfterUndo() {
        PusherRoom x = room(CORRIDOR);
        for (int i = 0; i < 8; i++) {
            x.step(i % 2 == 0 ? 1 : 3);
        }
        s.due("8 of 8", 8, () -> x.count(7));
        s.due("7 after one was undone", 7, x::undo);
        s.due("8 after another", "0 8", () -> x.step(3) + " " + x.count(7));
        s.due("8 after one more", "0 8", () -> x.step(1) + " " + x.count(7));
        for (int left = 7; left >= 0; left--) {
            int l = left;
            s.due("undone, " + left + " are left", l, x::undo);
        }
        s.due("none is left", STATE, x::undo);
        s.due("the first one stays", "r", () -> record(x));
    }

    private void refusalsAreKept() {
        s.says("Description", "When a method throws UnsupportedOperationException, reason and detail are kept for refusal.");
        PusherRoom x = room(CORRIDOR);
        s.due("step", "UnsupportedOperationException 1 8", () -> Check.answerOf(() -> x.step(3)) + " " + refusal(x));
        s.due("push", "UnsupportedOperationException 4 10", () -> Check.answerOf(() -> x.push(10, 3)) + " " + refusal(x));
        s.due("play", "UnsupportedOperationException 6 9", () -> play(x, "rL") + " " + refusal(x));
        s.due("longPush", "UnsupportedOperationException 4 10",
                () -> Check.answerOf(() -> x.longPush(10, 2)) + " " + refusal(x));
        s.due("another exception keeps nothing", "IndexOutOfBoundsException 4 10",
                () -> Check.answerOf(() -> x.push(9, 1)) + " " + refusal(x));
    }

    private void keptThingsStay() {
        s.says("Description", "What is kept of refusals, refused steps and solutions stays when a room is read, a command is "
                + "undone, or a snapshot is restored.");
        PusherRoom x = room(CORRIDOR);
        x.saveSnapshot();
        x.step(1);
        play(x, "llu");
        x.solve(1000, true);
        String kept = "1 1 8 10r 11r 3";
        s.due("before", kept, () -> kept(x));
        x.undo();
        s.due("a command is undone", kept, () -> kept(x));
        x.step(1);
        x.restoreSnapshot();
        s.due("a snapshot is restored", kept, () -> kept(x));
        read(x, SQUARE);
        s.due("a room is read", kept, () -> kept(x));
        read(x, "?");
        s.due("a text with a fault is read", kept, () -> kept(x));
        read(x, "@$.");
        s.due("a room of a wrong size is read", kept, () -> kept(x));
        x.step(1);
        x.push(12, 1);
        s.due("commands are made", kept, () -> kept(x));
    }

    private static String kept(PusherRoom x) {
        return x.refused() + " " + refusal(x) + " " + solution(x) + " " + x.solution(-1, true);
    }

    private void face() {
        s.says("Description", "The constructor and the methods follow, a promise each: the signature, then what it does.");
        s.due("one constructor", 1, () -> PusherRoom.class.getConstructors().length);
        s.due("24 methods", 24, () -> {
            int own = 0;
            for (java.lang.reflect.Method method : PusherRoom.class.getMethods()) {
                own += method.getDeclaringClass() == PusherRoom.class ? 1 : 0;
            }
            return own;
        });
    }

    private void recorded() {
        s.says("21", "Returns a step of the record as a letter, small without a push and a capital one with a push.");
        PusherRoom x = room(MIDDLE);
        x.push(12, 0);
        x.push(7, 1);
        x.push(8, 2);
        x.push(13, 3);
        s.due("all directions, with and without a push", "rdddrUluRurDrdL", () -> record(x));
        PusherRoom y = room(MIDDLE);
        s.due("they are a text of the same steps", "15 " + picture(x), () -> play(y, record(x)) + " " + picture(y));
        s.says("21", "- `i`: the number of the step, from 0");
        s.due("step 0", 'r', () -> x.recorded(0));
        s.due("step 5", 'U', () -> x.recorded(5));
        s.due("step 14", 'L', () -> x.recorded(14));
        s.says("21", "Returns the letter.");
        PusherRoom z = room(CORRIDOR);
        z.step(1);
        z.step(1);
        s.due("by step", "rR", () -> record(z));
        s.due("step 399 of 400", 'l', () -> walked400().recorded(399));
        s.says("21", "Throws `IndexOutOfBoundsException` if there is no such step");
        for (int i : new int[] {2, 3, -1, 400, Integer.MAX_VALUE, Integer.MIN_VALUE}) {
            s.due("step " + i + " of 2", INDEX, () -> z.recorded(i));
        }
        s.due("step 400 of 400", INDEX, () -> walked400().recorded(400));
        s.due("step 0 of none", INDEX, () -> room(CORRIDOR).recorded(0));
        s.due("step 0 without a room", INDEX, () -> new PusherRoom().recorded(0));
        z.undo();
        s.due("a step that was undone", INDEX, () -> z.recorded(1));
        read(z, SQUARE);
        s.due("a step in the room before", INDEX, () -> z.recorded(0));
    }

    private void isReplayed() {
        s.says("22", "Makes all recorded steps once more, from the room as it was read, and compares boxes, player and pushes "
                + "with the present ones.");
        PusherRoom x = room(MIDDLE);
        s.due("no steps", true, x::isReplayed);
        x.push(12, 0);
        x.step(1);
        s.due("steps and pushes", true, x::isReplayed);
        x.undo();
        s.due("after undo", true, x::isReplayed);
        s.says("22", "Returns whether everything is the same.");
        x.saveSnapshot();
        x.step(2);
        read(x, CORRIDOR);
        x.finish(1000);
        s.due("in another room", true, x::isReplayed);
        x.restoreSnapshot();
        s.due("from the room of the snapshot, as it was read then", true, x::isReplayed);
        x.push(7, 1);
        s.due("and on from there", true, x::isReplayed);
        s.due("400 steps", true, () -> walked400().isReplayed());
        s.says("22", "The state stays as it is.");
        String before = picture(x) + record(x) + x.count(7) + x.count(6) + x.cells(3);
        s.due("before and after", before, () -> {
            x.isReplayed();
            return picture(x) + record(x) + x.count(7) + x.count(6) + x.cells(3);
        });
        s.says("22", "Throws `IllegalStateException` if there is no room");
        s.due("no room", STATE, () -> new PusherRoom().isReplayed());
    }

    private void undo() {
        s.says("23", "Undoes the latest command that can be undone.");
        PusherRoom x = room(MIDDLE);
        x.push(12, 0);
        String before = picture(x);
        play(x, "ruL");
        s.due("the later one", "1 " + before, () -> x.undo() + " " + picture(x));
        s.due("its steps are not recorded", "rdddrU", () -> record(x));
        s.due("its pushes are not counted", 1, () -> x.count(6));
        s.due("the earlier one", "0 " + MIDDLE, () -> x.undo() + " " + picture(x));
        s.due("no step is recorded", "0 0", () -> x.count(5) + " " + x.count(6));
        s.says("23", "Returns the number of commands that can still be undone.");
        PusherRoom y = room(CORRIDOR);
        y.step(1);
        y.step(3);
        y.step(1);
        s.due("2 of 3", 2, y::undo);
        s.due("1 of 3", 1, y::undo);
        s.due("0 of 3", 0, y::undo);
        s.says("23", "Throws `IllegalStateException` if there is none");
        s.due("all are undone", STATE, y::undo);
        s.due("no command", STATE, () -> room(CORRIDOR).undo());
        s.due("no room", STATE, () -> new PusherRoom().undo());
        y.step(1);
        read(y, CORRIDOR);
        s.due("a room was read", STATE, y::undo);
        y.step(1);
        y.saveSnapshot();
        y.restoreSnapshot();
        s.due("a snapshot was restored", STATE, y::undo);
    }

    private void undoOfEach() {
        s.says("23", "Undoes the latest command that can be undone.");
        PusherRoom x = room(LONG_WALK);
        x.longPush(18, 1);
        s.due("a long push at once", "0 " + LONG_WALK, () -> x.undo() + " " + picture(x));
        x.finish(1000);
        s.due("all of finish at once", "0 " + LONG_WALK, () -> x.undo() + " " + picture(x));
        play(x, "7r7l");
        s.due("all of a text at once", "0 0", () -> x.undo() + " " + x.count(5));
        x.finish(1000);
        x.finish(1000);
        s.due("finish without steps", "1 7", () -> x.undo() + " " + x.count(5));
        x.feed('u');
        s.due("the input stays", "0 1", () -> x.undo() + " " + x.count(11));
    }

    private void saveSnapshot() {
        s.says("24", "Saves the room with its record, in place of an earlier snapshot.");
        PusherRoom x = room(CORRIDOR);
        x.step(1);
        x.saveSnapshot();
        x.step(1);
        String later = picture(x);
        x.saveSnapshot();
        x.step(1);
        x.restoreSnapshot();
        s.due("the later one", later + " rR", () -> picture(x) + " " + record(x));
        x.restoreSnapshot();
        s.due("the earlier one is no more", later + " rR", () -> picture(x) + " " + record(x));
        s.says("24", "Commands can be undone as before.");
        PusherRoom y = room(CORRIDOR);
        y.step(1);
        y.step(1);
        y.saveSnapshot();
        s.due("two", 2, () -> y.count(7));
        s.due("one is undone", "1 r", () -> y.undo() + " " + record(y));
        s.due("the other is undone", "0 " + CORRIDOR, () -> y.undo() + " " + picture(y));
        s.says("24", "Returns the number of steps that were recorded.");
        s.due("none", 0, y::saveSnapshot);
        y.finish(1000);
        s.due("three", 3, y::saveSnapshot);
        s.due("400", 400, () -> walked400().saveSnapshot());
        s.says("24", "Throws `IllegalStateException` if there is no room");
        s.due("no room", STATE, () -> new PusherRoom().saveSnapshot());
    }

    private void restoreSnapshot() {
        s.says("25", "Restores what was saved by the latest snapshot, which is kept.");
        PusherRoom x = room(CORRIDOR);
        x.step(1);
        x.step(1);
        String saved = picture(x);
        x.saveSnapshot();
        x.undo();
        x.step(3);
        s.due("room and record", "2 " + saved + " rR", () -> x.restoreSnapshot() + " " + picture(x) + " " + record(x));
        s.due("its pushes", 1, () -> x.count(6));
        x.step(1);
        s.due("it is kept", "2 " + saved + " rR", () -> x.restoreSnapshot() + " " + picture(x) + " " + record(x));
        read(x, SQUARE);
        x.push(12, 0);
        s.due("in place of another room", "2 " + saved + " rR", () -> x.restoreSnapshot() + " " + picture(x) + " " + record(x));
        s.due("with rows, columns and tables", "3 7 " + set(8), () -> x.count(0) + " " + x.count(1) + " " + x.cells(4));
        s.due("it can be solved", "1 of 2", () -> x.solve(1000, true) + " of " + x.solution(-1, true));
        x.feed('?');
        s.due("the input stays", "2 1", () -> x.restoreSnapshot() + " " + x.count(11));
        s.says("25", "No commands can be undone afterwards.");
        x.step(3);
        x.restoreSnapshot();
        s.due("none is left", 0, () -> x.count(7));
        s.due("none is undone", STATE, x::undo);
        x.step(3);
        s.due("a later command is undone", "0 " + saved, () -> x.undo() + " " + picture(x));
        s.says("25", "Returns the number of steps that were recorded.");
        s.due("two", 2, x::restoreSnapshot);
        PusherRoom y = walked400();
        y.saveSnapshot();
        read(y, CORRIDOR);
        s.due("400", 400, y::restoreSnapshot);
        s.due("they are all there", "400 true", () -> y.count(5) + " " + y.isReplayed());
        s.due("no step fits then", STATE, () -> y.step(1));
        s.says("25", "Throws `IllegalStateException` if no snapshot was saved");
        s.due("a room without a snapshot", STATE, () -> room(CORRIDOR).restoreSnapshot());
        s.due("no room", STATE, () -> new PusherRoom().restoreSnapshot());
    }

    private void callNumber512() {
        s.says("What it is", "An object is used for at most 512 calls after it has been made; what later calls answer is "
                + "free.");
        PusherRoom x = room(CORRIDOR);
        int calls = CORRIDOR.length() + 1;
        for (; calls < 510; calls += 2) {
            x.step(1);
            x.undo();
        }
        s.due("the last calls of 512", "3 0", () -> x.finish(3) + " " + x.undo());
    }
}
