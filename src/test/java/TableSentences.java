/** The document's sentences about tables, tunnels, goal rooms and the bound, and promises 7 to 10. */
final class TableSentences extends RoomTests {
    /** A goal at each end of a corridor: 9 and 14; player 11, box 12. */
    private static final String TWO_ENDS = "########/#.-@$-.#/########";
    /** Two boxes of which each can come to goal 14, and none to goal 25. */
    private static final String ONE_FOR_TWO = "########/#@-$$-.#/########/#.######";
    /** Four boxes hold one another, 13 being the lowest. */
    private static final String FOUR_FROZEN = "@-----/-----./-$$--./-$$--./-----./------";

    private final Sentences s;

    TableSentences(Sentences s) {
        this.s = s;
    }

    void test() {
        lonePushes();
        distances();
        deadCells();
        frozenBoxes();
        stuckRooms();
        tunnels();
        goalRooms();
        goalRoomNumbers();
        goalRoomOrder();
        bounds();
        distance();
        distanceThrows();
        bound();
        stuck();
        goalRoom();
        goalRoomThrows();
    }

    private void lonePushes() {
        s.says("Description", "A lone push takes a box from an open cell to its neighbor in a direction if this and the "
                + "neighbor behind are open; other boxes and the player do not matter.");
        PusherRoom x = room(TWO_ENDS);
        s.due("both are open", 1, () -> x.distance(10, 9));
        s.due("both are open, four times", 4, () -> x.distance(10, 14));
        s.due("the neighbor behind is a wall", ELEMENT, () -> x.distance(9, 14));
        s.due("the neighbor behind is a wall, the other way", ELEMENT, () -> x.distance(14, 9));
        s.due("the neighbor is a wall", ELEMENT, () -> room("#######/#.#@$.#/#######").distance(11, 8));
        PusherRoom y = room("#######/#@$$-.#/#####.#");
        s.due("a box in the way, the player behind", 3, () -> y.distance(9, 12));
        s.due("a box behind", 1, () -> y.distance(11, 12));
        s.due("another box behind", 2, () -> y.distance(10, 12));
        s.due("the player in the way", 3, () -> room("#######/#-$@-.#/#######").distance(9, 12));
        s.due("from a cell without a box", 3, () -> room("#######/#@-$-.#/#######").distance(9, 12));
    }

    private void distances() {
        s.says("Description", "The distance of a cell to a goal is the least number of lone pushes that take a box from it "
                + "to the goal.");
        PusherRoom x = room("-------/-------/@$#.---/-------/-------");
        s.due("around a wall", 4, () -> x.distance(15, 17));
        s.due("of the goal itself", 0, () -> x.distance(17, 17));
        s.due("beside the goal", 1, () -> x.distance(18, 17));
        s.due("not from the edge", ELEMENT, () -> x.distance(14, 17));
        s.due("two to a goal at cell 0", 2, () -> room(".-$@--/######/######").distance(2, 0));
        s.due("none to a goal at cell 0", ELEMENT, () -> room(".####/#@$-./#####").distance(7, 0));
        s.due("at a corner's way", 4, () -> room("@----/-$---/-----/---.-/-----").distance(6, 18));
    }

    private void deadCells() {
        s.says("Description", "An open cell is dead if it has a distance to no goal.");
        s.due("all but what leads to the goal", set(6, 7, 8, 11, 16, 17, 18), () -> room(SQUARE).cells(4));
        s.due("the end of a corridor, and no wall", set(8), () -> room(CORRIDOR).cells(4));
        s.due("a goal at the end", set(), () -> room(TWO_ENDS).cells(4));
        s.due("all goals", set(), () -> room("+*./.../...").cells(4));
        s.due("an open cell by itself", set(0, 2), () -> room("-#@$./#####/#####").cells(4));
    }

    private void frozenBoxes() {
        s.says("Description", "The frozen boxes are the greatest set of boxes such that each box of it is blocked in both "
                + "lines, its row and its column; a box is blocked in a line if one of its two neighbors in this line is a "
                + "wall or a frozen box, or both are dead cells, with or without a box.");
        s.due("walls in both lines", set(0), () -> room(HOPELESS).cells(5));
        s.due("walls in its column alone", set(), () -> room(CORRIDOR).cells(5));
        s.due("walls in its row alone", set(), () -> room("#@#/#-#/#$#/#-#/#.#").cells(5));
        s.due("a wall on one side, and one neighbor of two is dead", set(),
                () -> room("#####/#-$.#/#@--#/#---#/#####").cells(5));
        s.due("two at a wall", set(1, 2), () -> room("-$$-@/-----/--..-/-----").cells(5));
        s.due("four in a square", set(13, 14, 19, 20), () -> room(FOUR_FROZEN).cells(5));
        s.due("four in a square, on goals", set(7, 8, 13, 14), () -> room("@-----/-**---/-**---/------").cells(5));
        s.due("three with a way out", set(), () -> room("@-----/-$$---/--$---/------/-...--").cells(5));
        s.due("two side by side in the open", set(), () -> room("------/-@----/-$$---/------/--..--").cells(5));
        s.due("between dead cells, and a free one below it", set(7), () -> room("#####/#@$-#/#-$.#/#--.#/#####").cells(5));
        s.due("between dead cells, one with a box", set(7, 8), () -> room("#####/#-$$#/#@-.#/#--.#/#####").cells(5));
        s.due("beside a box in a corner, on a goal", set(7, 8), () -> room("#####/#-*$#/#@-.#/#--.#/#####").cells(5));
        s.due("between dead cells of its column", set(10), () -> room("-----/@---./$----/-----/-----").cells(5));
    }

    private void stuckRooms() {
        s.says("Description", "The room is stuck for the reason 1 if a box is on a dead cell, the lowest such cell being the "
                + "detail, or otherwise for the reason 2 if a frozen box is not on a goal, the lowest such cell being the "
                + "detail.");
        s.due("a box in a corner", "1 0", () -> stuck(room(HOPELESS)));
        s.due("the lowest of three", "1 6", () -> stuck(room("------$/@-----$/...----/-----$-/-------")));
        s.due("the lowest one on a dead cell", "1 14", () -> stuck(room("@----/-$---/----$/-..--/-----")));
        s.due("1 goes before 2, with a higher cell", "1 35", () -> stuck(room("@-----/----../-$$--./-$$--./-----./-----$")));
        s.due("frozen", "2 13", () -> stuck(room(FOUR_FROZEN)));
        s.due("the lowest frozen box off the goals", "2 14", () -> stuck(room("@-----/-..---/-*$---/-**---/-----./------")));
        s.due("frozen on goals", 0, () -> room("@-----/-**---/-**---/------").stuck(false));
        s.due("neither", 0, () -> room(SQUARE).stuck(false));
    }

    private void tunnels() {
        s.says("Description", "An open cell that is no goal is a tunnel in a line if both of its neighbors in the other line "
                + "are walls.");
        PusherRoom x = room("-#@$./#####/#####");
        s.due("in their row, without the goal and the walls", set(0, 2, 3), () -> x.cells(6));
        s.due("in both lines", set(0), () -> x.cells(7));
        PusherRoom y = room("@#-#/-#$#/-#-#/-#.#");
        s.due("in their column, without the goal", set(0, 2, 4, 6, 8, 10, 12), () -> y.cells(7));
        s.due("none in its row", set(), () -> y.cells(6));
        PusherRoom z = room("-----/#@$.#/#####");
        s.due("one wall of two is not enough", set(0, 4), () -> z.cells(6));
        s.due("one wall of two is not enough in the column", set(), () -> z.cells(7));
        s.due("boxes and the player are no walls", set(), () -> room("-$@--/---.-/#####").cells(6));
    }

    private void goalRooms() {
        s.says("Description", "A goal room is a largest connected set of goals, by neighbors, for which there is exactly one "
                + "open cell that is no goal and beside one or more of its goals, its entrance.");
        PusherRoom x = room("#######/#@$--.#/##-##.#/##-##.#/#######");
        s.due("one entrance", "1 11: 26 19 12", () -> x.count(9) + " " + goalRoom(x, 0));
        s.due("three entrances", 0, () -> room(SQUARE).count(9));
        s.due("two entrances, one with a box", 0, () -> room("..$@/-###/-###").count(9));
        s.due("no entrance", 0, () -> room(".#@--/##$--/-----/-.---").count(9));
        s.due("goals everywhere", 0, () -> room("+*./.../...").count(9));
        PusherRoom y = room(".--@/#.-$/###-");
        s.due("goals at a corner are not connected", "1 1: 0", () -> y.count(9) + " " + goalRoom(y, 0));
        s.due("one cell beside two goals", "2: 7 3 6", () -> goalRoom(room("@$-./##../####"), 0));
        s.due("a box on the entrance", "3: 1 2", () -> goalRoom(room("#..$@/####-/#####"), 0));
        s.due("the player on the entrance", "3: 1 2", () -> goalRoom(room("#..@$/####-/####-"), 0));
        s.due("a box on a goal", "3: 1 2", () -> goalRoom(room("#.*-@/####$/####-"), 0));
    }

    private void goalRoomNumbers() {
        s.says("Description", "Goal rooms are numbered from 0 in ascending order of their lowest cells.");
        PusherRoom x = room("########/#...-@-#/#####-##/#####$##/#####-##/#####.##/########");
        s.due("the first one", "12: 9 10 11", () -> goalRoom(x, 0));
        s.due("the second one", "37: 45", () -> goalRoom(x, 1));
        PusherRoom y = room("#####-@-/#.###.#-/#----#$-");
        s.due("not in the order of the entrances", "17: 9 5: 13", () -> goalRoom(y, 0) + " " + goalRoom(y, 1));
        PusherRoom z = room("########/#-.-@$.#/########");
        s.due("a set of goals that is no goal room has no number", "13: 14", () -> goalRoom(z, 0));
        s.due("and there is no second one", ELEMENT, () -> z.goalRoom(1, -1));
        s.due("cell 0 is the lowest", "1: 0", () -> goalRoom(room(".-$@--/######/######"), 0));
    }

    private void goalRoomOrder() {
        s.says("Description", "The order of a goal room has its goals in descending order of the least number of steps from "
                + "the entrance to them over cells of the room, without regard to boxes, and ascending order of the cells "
                + "for the same number.");
        s.due("ascending cells for the same number", "10: 19 12 18 11", () -> goalRoom(room("#######/#@$-..#/####..#"), 0));
        s.due("steps around a wall", "2: 12 13 14 9 4 3", () -> goalRoom(room("@$-../####./##..."), 0));
        s.due("with a box in it", "2: 12 13 14 9 4 3", () -> goalRoom(room("@$-.*/####./##..."), 0));
        s.due("nearest last", "8: 5 6 7", () -> goalRoom(room("#####/...-@/####$/####-"), 0));
    }

    private void bounds() {
        s.says("Description", "The bound is the least sum of distances over all ways to give the boxes different goals; there "
                + "is none if that cannot be done.");
        s.due("one box, one goal", 2, () -> room(CORRIDOR).bound());
        s.due("one box, two goals, the higher one is nearer", 2, () -> room(TWO_ENDS).bound());
        s.due("one box, two goals, the lower one is nearer", 2, () -> room("########/#.-$@-.#/########").bound());
        s.due("a goal at cell 0", 2, () -> room(".-$@--/######/######").bound());
        s.due("a goal at cell 63", 1, () -> room("@-------" + "/--------".repeat(6) + "/-----*$.").bound());
        s.due("not the nearest goal for each", 3, () -> room("--------/@-------/-.-$.$--/--------").bound());
        s.due("five boxes", 5, () -> room("@-------/-$$$$$--/-.....--/--------").bound());
        s.due("on a goal, and before it", 2, () -> room("#######/#@$*.-#/#######").bound());
        s.due("all on goals", 0, () -> room(SOLVED).bound());
        s.due("a box on a dead cell", ELEMENT, () -> room("#####/#@$-#/#-$.#/#--.#/#####").bound());
        s.due("one goal for two boxes", ELEMENT, () -> room(ONE_FOR_TWO).bound());
        s.due("though the first box has a goal", 3, () -> room(ONE_FOR_TWO).distance(11, -1));
        s.due("though the second box has a goal", 2, () -> room(ONE_FOR_TWO).distance(12, -1));
    }

    private void distance() {
        PusherRoom x = room(TWO_ENDS);
        s.says("7", "Returns the distance of a cell to a goal, or to its nearest goal.");
        s.due("to the goal at the left", 3, () -> x.distance(12, 9));
        s.due("to the goal at the right", 2, () -> x.distance(12, 14));
        s.due("to the nearest", 2, () -> x.distance(12, -1));
        s.says("7", "- `goal`: the cell of the goal, or -1 for the nearest one");
        s.due("-1", 1, () -> x.distance(10, -1));
        s.due("-1 on a goal", 0, () -> x.distance(9, -1));
        s.due("the one that is not nearest", 4, () -> x.distance(10, 14));
        s.due("a goal at cell 0", 1, () -> room(".-$@--/######/######").distance(1, 0));
        s.says("7", "Returns the distance.");
        s.due("of cell 0", 0, () -> room(".-$@--/######/######").distance(0, 0));
        s.due("of cell 63 to itself", 0, () -> room("-@$-----" + "/--------".repeat(6) + "/-------.").distance(63, 63));
        s.says("7", "Throws `IllegalStateException` if there is no room");
        s.due("without a room", STATE, () -> new PusherRoom().distance(0, -1));
    }

    private void distanceThrows() {
        PusherRoom x = room(TWO_ENDS);
        s.says("7", "Throws `IndexOutOfBoundsException` if there is no such open cell, or goal is neither -1 nor a goal");
        for (int cell : new int[] {8, 15, 0, 23, -1, -2, 24, 63, 64, 76, -52, Integer.MAX_VALUE, Integer.MIN_VALUE}) {
            s.due("cell " + cell, INDEX, () -> x.distance(cell, -1));
            s.due("cell " + cell + " to a goal", INDEX, () -> x.distance(cell, 9));
        }
        for (int goal : new int[] {-2, 10, 12, 8, 0, 24, 64, 73, 78, -55, Integer.MAX_VALUE, Integer.MIN_VALUE}) {
            s.due("goal " + goal, INDEX, () -> x.distance(12, goal));
        }
        s.due("goal -1 and cell 9 are right", 0, () -> x.distance(9, -1));
        s.says("7", "Throws `NoSuchElementException` if there is no distance");
        s.due("a dead cell", ELEMENT, () -> room(CORRIDOR).distance(8, -1));
        s.due("a dead cell and a goal", ELEMENT, () -> room(CORRIDOR).distance(8, 12));
        s.due("a goal that leads to no other", ELEMENT, () -> x.distance(14, 9));
    }

    private void bound() {
        s.says("8", "Returns the bound.");
        PusherRoom x = room(CORRIDOR);
        s.due("2 at first", 2, x::bound);
        x.push(10, 1);
        s.due("1 after a push", 1, x::bound);
        x.push(11, 1);
        s.due("0 at the end", 0, x::bound);
        read(x, ".$@--/#####/#####");
        s.due("1 in another room", 1, x::bound);
        read(x, ".####/#@$-./#####");
        s.due("2 in a third one, whose goal 0 has no way", 2, x::bound);
        s.says("8", "Throws `IllegalStateException` if there is no room");
        s.due("without a room", STATE, () -> new PusherRoom().bound());
        s.says("8", "Throws `NoSuchElementException` if there is none");
        s.due("a box in a corner", ELEMENT, () -> room(HOPELESS).bound());
        s.due("one goal for two boxes", ELEMENT, () -> room(ONE_FOR_TWO).bound());
    }

    private void stuck() {
        s.says("9", "Returns for which reason the room is stuck, or the detail.");
        PusherRoom x = room(SQUARE);
        x.push(12, 0);
        s.due("reason 1", 1, () -> x.stuck(false));
        s.due("its detail", 7, () -> x.stuck(true));
        s.says("9", "- `isDetail`: false for the reason, true for the detail");
        PusherRoom y = room(FOUR_FROZEN);
        s.due("reason 2", 2, () -> y.stuck(false));
        s.due("its detail", 13, () -> y.stuck(true));
        s.says("9", "Returns the reason, 0 if it is not stuck, or the detail.");
        x.undo();
        s.due("not stuck", 0, () -> x.stuck(false));
        s.due("the detail 0", 0, () -> room(HOPELESS).stuck(true));
        s.says("9", "Throws `IllegalStateException` if there is no room, or it is not stuck and the detail is asked");
        s.due("no room", STATE, () -> new PusherRoom().stuck(false));
        s.due("no room, the detail", STATE, () -> new PusherRoom().stuck(true));
        s.due("not stuck, the detail", STATE, () -> x.stuck(true));
    }

    private void goalRoom() {
        PusherRoom x = room("#######/#@$--.#/##-##.#/##-##.#/#######");
        s.says("10", "Returns a number about a goal room.");
        s.due("its entrance", 11, () -> x.goalRoom(0, -1));
        s.says("10", "- `i`: the place in its order, from 0, or -1 for its entrance, or -2 for the number of its goals");
        s.due("place 0", 26, () -> x.goalRoom(0, 0));
        s.due("place 1", 19, () -> x.goalRoom(0, 1));
        s.due("place 2", 12, () -> x.goalRoom(0, 2));
        s.due("-1", 11, () -> x.goalRoom(0, -1));
        s.due("-2", 3, () -> x.goalRoom(0, -2));
        s.says("10", "Returns the cell or the number.");
        PusherRoom y = room(TWO_ENDS);
        s.due("a room of one goal", "1 10 9", () -> y.goalRoom(0, -2) + " " + goalRoom(y, 0).replace(":", ""));
        s.due("another room of one goal", "1 13 14", () -> y.goalRoom(1, -2) + " " + goalRoom(y, 1).replace(":", ""));
        s.due("it does not change by pushes", "10: 9 13: 14", () -> {
            y.push(12, 1);
            y.push(13, 1);
            return goalRoom(y, 0) + " " + goalRoom(y, 1);
        });
    }

    private void goalRoomThrows() {
        PusherRoom x = room("#######/#@$--.#/##-##.#/##-##.#/#######");
        s.says("10", "Throws `IllegalStateException` if there is no room");
        s.due("without a room", STATE, () -> new PusherRoom().goalRoom(0, -1));
        s.says("10", "Throws `NoSuchElementException` if there is no such goal room or place");
        for (int i : new int[] {3, -3, 64, Integer.MAX_VALUE, Integer.MIN_VALUE}) {
            s.due("place " + i, ELEMENT, () -> x.goalRoom(0, i));
        }
        for (int room : new int[] {1, -1, -2, 64, Integer.MAX_VALUE, Integer.MIN_VALUE}) {
            s.due("room " + room, ELEMENT, () -> x.goalRoom(room, -1));
            s.due("number of goals of room " + room, ELEMENT, () -> x.goalRoom(room, -2));
        }
        s.due("no goal rooms at all", ELEMENT, () -> room(SQUARE).goalRoom(0, -2));
    }
}
