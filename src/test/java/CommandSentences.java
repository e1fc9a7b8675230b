/** The document's promises 11 to 17, sentence by sentence. */
final class CommandSentences extends RoomTests {
    /** As LONG_WALK, but with the player one step on. */
    private static final String LONG_WALK_BESIDE = "-@------/-#######/--$---.#";
    private static final int[] NO_DIRECTIONS = {-1, 4, 5, -4, Integer.MAX_VALUE, Integer.MIN_VALUE};
    /** In SQUARE: open cells, walls, cells beyond the room, and numbers that are 12 but for a multiple of 32 or 64. */
    private static final int[] NO_BOXES = {6, 13, 0, 24, 25, 63, 64, -1, 44, 76, -20, -52,
        Integer.MAX_VALUE, Integer.MIN_VALUE};

    private final Sentences s;

    CommandSentences(Sentences s) {
        this.s = s;
    }

    void test() {
        step();
        stepThrows();
        push();
        pushThrows();
        pushAtTheEndOfTheRecord();
        longPush();
        longPushThrows();
        longPushAtTheEndOfTheRecord();
        play();
        playReturns();
        playThrows();
        playAtTheEndOfTheRecord();
        refused();
        refusalKept();
        refuses();
        refusesThrows();
    }

    private void step() {
        PusherRoom x = room(SQUARE);
        s.says("11", "Makes a step.");
        s.due("to the right", 0, () -> x.step(1));
        s.due("the player", 7, () -> x.count(4));
        s.due("a step is recorded", "r", () -> record(x));
        s.says("11", "Returns 1 if a box was pushed, otherwise 0.");
        s.due("down, a push", 1, () -> x.step(2));
        s.due("up, none", 0, () -> x.step(0));
        s.due("down to where the box was", 0, () -> x.step(2));
    }

    private void stepThrows() {
        s.says("11", "Throws `IllegalArgumentException` if there is no such direction");
        for (int direction : NO_DIRECTIONS) {
            s.due("direction " + direction, ARGUMENT, () -> room(SQUARE).step(direction));
        }
        s.says("11", "Throws `IllegalStateException` if there is no room, or 400 steps were recorded");
        s.due("no room", STATE, () -> new PusherRoom().step(0));
        PusherRoom x = walked392();
        play(x, "4r3l");
        s.due("399 steps were recorded", 399, () -> x.count(5));
        s.due("step 400", 0, () -> x.step(3));
        s.due("a step beyond 400", STATE, () -> x.step(1));
        s.due("400 steps are recorded", 400, () -> x.count(5));
        s.due("undone, a step goes again", "3 0", () -> x.undo() + " " + x.step(3));
        s.says("11", "Throws `UnsupportedOperationException` if the step is refused");
        s.due("a wall", REFUSED, () -> room(SQUARE).step(0));
        s.due("a box at a wall", REFUSED, () -> room("-@$/---/.--").step(1));
        s.due("a box before a box", REFUSED, () -> room("@$$-/----/..--").step(1));
    }

    private void push() {
        PusherRoom x = room(SQUARE);
        s.says("12", "Makes a push.");
        s.due("down", 2, () -> x.push(12, 2));
        s.due("the room", "#####/#---#/#-@.#/#-$-#/#####", () -> picture(x));
        s.due("one command", 1, () -> x.count(7));
        s.due("two steps, one push", "2 1", () -> x.count(5) + " " + x.count(6));
        s.says("12", "Returns the number of steps, the push included.");
        s.due("two steps, and to the right", 3, () -> x.push(17, 1));
        s.due("the steps of both", "rDldR", () -> record(x));
        PusherRoom y = room("-----/-@$--/----.");
        s.due("the push alone", 1, () -> y.push(7, 1));
    }

    private void pushThrows() {
        s.says("12", "Throws `IllegalArgumentException` if there is no such direction");
        for (int direction : NO_DIRECTIONS) {
            s.due("direction " + direction, ARGUMENT, () -> room(SQUARE).push(12, direction));
        }
        s.says("12", "Throws `IllegalStateException` if there is no room");
        s.due("no room", STATE, () -> new PusherRoom().push(0, 0));
        s.says("12", "Throws `IndexOutOfBoundsException` if there is no box on such a cell");
        for (int cell : NO_BOXES) {
            s.due("cell " + cell, INDEX, () -> room(SQUARE).push(cell, 1));
        }
        PusherRoom x = room(SQUARE);
        x.push(12, 1);
        s.due("a box that has left", INDEX, () -> x.push(12, 1));
        s.says("12", "Throws `UnsupportedOperationException` if the push is refused");
        s.due("into a wall", "UnsupportedOperationException 2 13",
                () -> Check.answerOf(() -> x.push(13, 1)) + " " + refusal(x));
        s.due("from a wall", "UnsupportedOperationException 4 13",
                () -> Check.answerOf(() -> x.push(13, 3)) + " " + refusal(x));
        PusherRoom y = room("@$$-/----/..--");
        s.due("onto a box", "UnsupportedOperationException 3 2", () -> Check.answerOf(() -> y.push(1, 1)) + " " + refusal(y));
    }

    private void pushAtTheEndOfTheRecord() {
        s.says("12", "Throws `ArithmeticException` if more than 400 steps would be recorded");
        PusherRoom x = walked392();
        play(x, "3r3l");
        s.due("398 and 4", ARITHMETIC, () -> x.push(18, 1));
        s.due("398 and 4: nothing is done", "398 3 " + LONG_WALK, () -> x.count(5) + " " + x.count(7) + " " + picture(x));
        x.undo();
        play(x, "2r2l");
        s.due("396 and 4", 4, () -> x.push(18, 1));
        s.due("400 are recorded", 400, () -> x.count(5));
        s.due("400 and 1", ARITHMETIC, () -> x.push(19, 1));
        s.due("all of it is replayed", true, x::isReplayed);
    }

    private void longPush() {
        PusherRoom x = room(LONG_WALK);
        s.says("13", "Makes a long push.");
        s.due("to the goal", 4, () -> x.longPush(18, 1));
        s.due("the room", "--------/-#######/-----@*#", () -> picture(x));
        s.due("one command", 1, () -> x.count(7));
        s.says("13", "Returns the number of pushes.");
        s.due("seven steps, four of them pushes", "7 4", () -> x.count(5) + " " + x.count(6));
        PusherRoom y = room(SQUARE);
        s.due("one push", 1, () -> y.longPush(12, 2));
        s.due("two steps", "rD", () -> record(y));
    }

    private void longPushThrows() {
        s.says("13", "Throws `IllegalArgumentException` as for push");
        for (int direction : NO_DIRECTIONS) {
            s.due("direction " + direction, ARGUMENT, () -> room(SQUARE).longPush(12, direction));
        }
        s.says("13", "Throws `IllegalStateException` as for push");
        s.due("no room", STATE, () -> new PusherRoom().longPush(0, 0));
        s.says("13", "Throws `IndexOutOfBoundsException` as for push");
        for (int cell : NO_BOXES) {
            s.due("cell " + cell, INDEX, () -> room(SQUARE).longPush(cell, 1));
        }
        s.says("13", "Throws `UnsupportedOperationException` as for push");
        PusherRoom x = room(SQUARE);
        x.push(12, 1);
        s.due("into a wall", "UnsupportedOperationException 2 13",
                () -> Check.answerOf(() -> x.longPush(13, 1)) + " " + refusal(x));
        s.due("from a wall", "UnsupportedOperationException 4 13",
                () -> Check.answerOf(() -> x.longPush(13, 3)) + " " + refusal(x));
        PusherRoom y = room("@$$-/----/..--");
        s.due("onto a box", "UnsupportedOperationException 3 2",
                () -> Check.answerOf(() -> y.longPush(1, 1)) + " " + refusal(y));
    }

    private void longPushAtTheEndOfTheRecord() {
        s.says("13", "Throws `ArithmeticException` if more than 400 steps would be recorded by all of it");
        PusherRoom x = walked392();
        play(x, "2r2l");
        s.due("396 and 7, of which 4 would fit", ARITHMETIC, () -> x.longPush(18, 1));
        s.due("nothing is done", "396 3 " + LONG_WALK, () -> x.count(5) + " " + x.count(7) + " " + picture(x));
        x.undo();
        s.due("392 and 7", 4, () -> x.longPush(18, 1));
        s.due("399 are recorded", 399, () -> x.count(5));
        PusherRoom y = room(LONG_WALK_BESIDE);
        play(y, "6r6l".repeat(20));
        play(y, "6r6l".repeat(12) + "4r4l");
        y.step(1);
        y.step(3);
        s.due("394 and 8", ARITHMETIC, () -> y.longPush(18, 1));
        y.undo();
        y.undo();
        s.due("392 and 8", 4, () -> y.longPush(18, 1));
        s.due("400 are recorded", 400, () -> y.count(5));
        s.due("all of it is replayed", true, y::isReplayed);
    }

    private void play() {
        PusherRoom x = room(SQUARE);
        s.says("14", "Makes the steps of the text in the input, which is empty afterwards in any case.");
        s.due("a text", "5", () -> play(x, "2r2l1d"));
        s.due("its steps", "rrlld", () -> record(x));
        s.due("empty after steps", 0, () -> x.count(11));
        play(x, "x");
        s.due("empty after a fault", 0, () -> x.count(11));
        play(x, "l");
        s.due("empty after a refusal", 0, () -> x.count(11));
        PusherRoom y = walked400();
        play(y, "r");
        s.due("empty after too many steps", 0, () -> y.count(11));
        PusherRoom z = new PusherRoom();
        play(z, "r");
        s.due("empty after there was no room", 0, () -> z.count(11));
        s.due("what is fed then is a text by itself", "1", () -> play(x, "R"));
        s.says("14", "Either all steps are made or none.");
        String before = picture(x) + record(x) + x.count(7);
        s.due("the third is refused", REFUSED, () -> play(x, "ul2u"));
        s.due("none was made", before, () -> picture(x) + record(x) + x.count(7));
        s.due("the last would be one too many", ARITHMETIC, () -> {
            y.undo();
            return play(y, "4r4lr");
        });
        s.due("none was made of nine", "392 2 0", () -> y.count(5) + " " + y.count(7) + " " + y.count(4));
        PusherRoom w = room("-----/-@$--/----.");
        s.due("a push and a step that is refused", REFUSED, () -> play(w, "Rdd"));
        s.due("the push was not made", "-----/-@$--/----.", () -> picture(w));
    }

    private void playReturns() {
        PusherRoom x = room(SQUARE);
        s.says("14", "Returns the number of steps; -100 minus the fault position if the input is no text of steps.");
        s.due("1 step", "1", () -> play(x, "r"));
        s.due("3 steps by 3 letters", "3", () -> play(x, "rdu"));
        s.due("4 steps by 2 letters", "4", () -> play(x, "2l2r"));
        s.due("fault at 0", "-100", () -> play(x, "?"));
        s.due("fault at 0 of no characters", -100, x::play);
        s.due("fault at 3", "-103", () -> play(x, "2l5"));
        s.due("fault at 1, behind a step that would be refused", "-101", () -> play(x, "u!"));
        s.due("fault at 80", "-180", () -> play(x, "l".repeat(79) + "5"));
        s.due("faults are no commands", "3 8", () -> x.count(7) + " " + x.count(5));
        s.due("nothing was refused", ELEMENT, () -> x.refusal(false));
    }

    private void playThrows() {
        s.says("14", "Throws `IllegalStateException` if there is no room");
        s.due("a text", STATE, () -> play(new PusherRoom(), "u"));
        s.due("no text", STATE, () -> play(new PusherRoom(), "?"));
        s.due("nothing", STATE, () -> play(new PusherRoom(), ""));
        s.says("14", "Throws `UnsupportedOperationException` if a step is refused, even if more than 400 steps would be "
                + "recorded ahead of it; its number among all steps of the text, from 0, is kept for refused");
        PusherRoom x = room(SQUARE);
        s.due("the first one", "UnsupportedOperationException 0", () -> play(x, "u") + " " + x.refused());
        s.due("the last one of three", "UnsupportedOperationException 2", () -> play(x, "2r2r") + " " + x.refused());
        PusherRoom y = walked392();
        s.due("behind step 400", "UnsupportedOperationException 9", () -> play(y, "4r4lru") + " " + y.refused());
        s.due("as step 401", "UnsupportedOperationException 8", () -> play(y, "4r4lu") + " " + y.refused());
        PusherRoom z = walked400();
        s.due("the first one behind 400", "UnsupportedOperationException 0", () -> play(z, "u") + " " + z.refused());
        s.due("reason and detail", "1 0", () -> refusal(z));
        s.due("far behind 400", "UnsupportedOperationException 266",
                () -> play(z, "7r7l".repeat(18) + "7rl7l") + " " + z.refused());
        s.due("where it would have been refused", "1 0", () -> refusal(z));
    }

    private void playAtTheEndOfTheRecord() {
        s.says("14", "Throws `ArithmeticException` if more than 400 steps would be recorded");
        PusherRoom x = walked392();
        s.due("392 and 9", ARITHMETIC, () -> play(x, "4r4lr"));
        s.due("392 and 280", ARITHMETIC, () -> play(x, "7r7l".repeat(20)));
        s.due("392 and 8", "8", () -> play(x, "4r4l"));
        s.due("400 and 1", ARITHMETIC, () -> play(x, "r"));
        s.due("400 are recorded, by three commands", "400 3", () -> x.count(5) + " " + x.count(7));
        s.due("the last of them", 'l', () -> x.recorded(399));
        s.due("all of it is replayed", true, x::isReplayed);
    }

    private void refused() {
        PusherRoom x = room(CORRIDOR);
        s.says("15", "Throws `NoSuchElementException` if none was");
        s.due("at first", ELEMENT, x::refused);
        s.due("a step of a text, not refused", "1", () -> play(x, "r"));
        s.due("a text, not refused", ELEMENT, x::refused);
        s.due("a step that is refused", REFUSED, () -> x.step(0));
        s.due("a step is no text", ELEMENT, x::refused);
        s.due("a push that is refused", REFUSED, () -> x.push(10, 3));
        s.due("a push is no text", ELEMENT, x::refused);
        s.due("a fault", "-100", () -> play(x, "?"));
        s.due("a fault is no refusal", ELEMENT, x::refused);
        s.says("15", "Returns which step of a text was refused last.");
        s.due("step 4", "UnsupportedOperationException 4", () -> play(x, "lr3R") + " " + x.refused());
        s.due("step 1", "UnsupportedOperationException 1", () -> play(x, "lu") + " " + x.refused());
        s.due("a step, a push, a text", "UnsupportedOperationException UnsupportedOperationException 1", () ->
                Check.answerOf(() -> x.step(0)) + " " + Check.answerOf(() -> x.longPush(10, 0)) + " " + play(x, "l"));
        s.due("stays", 1, x::refused);
        s.says("15", "Returns the number of the step, from 0.");
        s.due("step 0", "UnsupportedOperationException 0", () -> play(x, "u") + " " + x.refused());
    }

    private void refusalKept() {
        PusherRoom x = room(CORRIDOR);
        s.says("16", "Throws `NoSuchElementException` if nothing is kept");
        s.due("the reason", ELEMENT, () -> x.refusal(false));
        s.due("the detail", ELEMENT, () -> x.refusal(true));
        x.step(1);
        s.due("a step that is not refused", ELEMENT, () -> x.refusal(false));
        s.says("16", "Returns what is kept of the latest refusal.");
        s.due("a step", "UnsupportedOperationException 1 9", () -> Check.answerOf(() -> x.step(2)) + " " + refusal(x));
        s.due("a push", "UnsupportedOperationException 4 10", () -> Check.answerOf(() -> x.push(10, 3)) + " " + refusal(x));
        s.due("a text", "UnsupportedOperationException 5 9", () -> play(x, "lrr") + " " + refusal(x));
        s.due("a long push", "UnsupportedOperationException 4 10",
                () -> Check.answerOf(() -> x.longPush(10, 2)) + " " + refusal(x));
        s.due("a text that is not refused", "1 4 10", () -> play(x, "l") + " " + refusal(x));
        s.says("16", "- `isDetail`: false for the reason, true for the detail");
        s.due("false", 4, () -> x.refusal(false));
        s.due("true", 10, () -> x.refusal(true));
        s.says("16", "Returns the reason or the detail.");
        PusherRoom y = room(HOPELESS);
        y.step(0);
        y.step(1);
        s.due("a corner", "UnsupportedOperationException 1 2", () -> Check.answerOf(() -> y.step(1)) + " " + refusal(y));
        y.step(3);
        s.due("a box in cell 0", "UnsupportedOperationException 2 0", () -> Check.answerOf(() -> y.step(3)) + " " + refusal(y));
    }

    private void refuses() {
        PusherRoom x = room("@$$-/----/..--");
        s.says("17", "Returns why a push would be refused.");
        s.due("onto a box", 3, () -> x.refuses(1, 1));
        s.due("from a box", 4, () -> x.refuses(1, 3));
        s.due("into a wall", 2, () -> x.refuses(1, 0));
        s.due("from beyond the edge", 4, () -> x.refuses(1, 2));
        s.says("17", "Returns the reason, 0 if it is not refused.");
        s.due("not refused", 0, () -> room(CORRIDOR).refuses(10, 1));
        s.due("not refused, with a walk", 0, () -> room(SQUARE).refuses(12, 0));
        s.due("reason 4", 4, () -> room(CORRIDOR).refuses(10, 3));
        s.due("not refused though the record is full", 0, () -> walked400().refuses(18, 1));
        s.says("17", "Nothing is kept for refusal.");
        s.due("nothing kept", ELEMENT, () -> x.refusal(false));
        s.due("a step is refused", REFUSED, () -> x.step(0));
        s.due("a push would be refused", 3, () -> x.refuses(1, 1));
        s.due("what was kept stays", "1 0", () -> refusal(x));
        s.due("nothing is done", "@$$-/----/..-- 0 0", () -> picture(x) + " " + x.count(5) + " " + x.count(7));
    }

    private void refusesThrows() {
        s.says("17", "Throws `IllegalArgumentException` as for push");
        for (int direction : NO_DIRECTIONS) {
            s.due("direction " + direction, ARGUMENT, () -> room(SQUARE).refuses(12, direction));
        }
        s.says("17", "Throws `IllegalStateException` as for push");
        s.due("no room", STATE, () -> new PusherRoom().refuses(0, 0));
        s.says("17", "Throws `IndexOutOfBoundsException` as for push");
        for (int cell : NO_BOXES) {
            s.due("cell " + cell, INDEX, () -> room(SQUARE).refuses(cell, 1));
        }
    }
}
