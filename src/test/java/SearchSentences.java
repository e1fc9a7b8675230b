/** The document's sentences about the search, and promises 18 to 20. */
final class SearchSentences extends RoomTests {
    /** The box can be on each of the five cells of row 0, and cannot leave it: 5 positions. */
    private static final String ROW = "-$---/@----/----.";
    /** The box can go through a door and be pushed back from behind: 9 positions, on 6 cells. */
    private static final String DOOR = "###--./@$----/######";
    /** One push solves it; of the four others one ends on a dead cell, and two beside another box at the wall. */
    private static final String WALL = ".$-*-/--@--/#####";
    /** A search without tables finds 1000 positions before it visits a solved one. */
    private static final String THOUSAND = "----.-/-#----/-#--.-/-@----/--$---/------/---$--/------";
    /** A search with tables finds 1000 positions before it visits a solved one. */
    private static final String THOUSAND_WITH_TABLES = "----$-./---$---/-$---#@/.-.----";
    /** There are 1000 positions without tables, and none of them is solved. */
    private static final String THOUSAND_IN_VAIN = ".-#--$--/@$------/--------/--------/--------/--#-$..-";
    private static final int[] NO_LIMITS = {0, -1, 1001, Integer.MAX_VALUE, Integer.MIN_VALUE};

    private final Sentences s;

    SearchSentences(Sentences s) {
        this.s = s;
    }

    void test() {
        positions();
        begin();
        end();
        order();
        tables();
        pushesOfTheSolution();
        givesUp();
        solve();
        solveParameters();
        solveThrows();
        solution();
        solutionThrows();
        finish();
        finishParameters();
        finishThrows();
        finishAtTheEndOfTheRecord();
    }

    /** Pushes and positions of the solution that a search finds. */
    private static String solved(PusherRoom x, int limit, boolean withTables) {
        return x.solve(limit, withTables) + " of " + x.solution(-1, true);
    }

    private void positions() {
        s.says("Description", "A position consists of the cells of the boxes and the lowest cell of the area of the player.");
        s.due("the player elsewhere in the same area: 5 positions are all", ELEMENT, () -> room(ROW).solve(5, false));
        s.due("4 are not all", ARITHMETIC, () -> room(ROW).solve(4, false));
        s.due("the player in another area: 9 positions are all", ELEMENT, () -> room(DOOR).solve(9, false));
        s.due("8 are not all", ARITHMETIC, () -> room(DOOR).solve(8, false));
    }

    private void begin() {
        s.says("Description", "The search begins with the present position, which counts as found even if it is stuck, and "
                + "visits positions in the order in which they were found.");
        PusherRoom x = room(CORRIDOR);
        x.push(10, 1);
        s.due("the present position, not that of the room as it was read", "1 of 2", () -> solved(x, 1000, false));
        s.due("stuck, and no push is possible", ELEMENT, () -> room(HOPELESS).solve(1, true));
        s.due("stuck, and all positions behind it", ELEMENT, () -> room("-$-/-@-/-.-").solve(1, true));
        s.due("stuck, positions behind it without tables", ARITHMETIC, () -> room("-$-/-@-/-.-").solve(1, false));
        s.due("stuck, all three without tables", ELEMENT, () -> room("-$-/-@-/-.-").solve(3, false));
        s.due("the fewest pushes come first", 3, () -> room("------/@-$---/------/---.--").solve(1000, false));
        s.due("two found before the solved one are visited before it", "1 of 7", () -> solved(room(SQUARE), 1000, false));
    }

    private void end() {
        s.says("Description", "A position that is solved ends it when it is visited.");
        s.due("the first one", "0 of 1", () -> solved(room(SOLVED), 1, false));
        s.due("the first one with tables", "0 of 1", () -> solved(room(SOLVED), 1000, true));
        s.due("not when it is found", "1 of 5", () -> solved(room(WALL), 1000, false));
        s.due("nothing is found behind it", "1 of 2", () -> solved(room("######/#@$.-#/######"), 1000, false));
    }

    private void order() {
        s.says("Description", "From a position, all pushes that are not refused are looked at, in ascending order of the cells "
                + "of the boxes, then of the directions; the position after it is found if it was not found before.");
        first("@----/-----/--$--/-----/-----", 8, "12u 7r", "up before right");
        first("@----/-----/--$--/-----/-----", 18, "12r 13d", "right before down");
        first("@----/-----/--$--/-----/-----", 16, "12d 17l", "down before left");
        first("@----/-----/--$--/-----/-----", 6, "12u 7l", "up before left");
        PusherRoom x = room("--------/@-$--$--/--.--.--/--------");
        x.solve(1000, true);
        s.due("the lower box first", "10d 13d", () -> solution(x));
        PusherRoom y = room("--------/@-$--.--/--.--$--/--------");
        y.solve(1000, true);
        s.due("the lower box first, with the later direction", "10d 21u", () -> solution(y));
        PusherRoom z = room("------/@-$---/------/---.--");
        z.solve(1000, true);
        s.due("a position that was found already stays with its first push", "8r 9d 15d", () -> solution(z));
        s.due("positions are found once", ELEMENT, () -> room(ROW).solve(5, false));
        s.due("refused pushes find none", ELEMENT, () -> room("#######/#@-$#.#/#######").solve(1, false));
    }

    private void first(String room, int goal, String want, String what) {
        StringBuilder text = new StringBuilder(room);
        text.setCharAt(goal / 5 * 6 + goal % 5, '.');
        PusherRoom x = room(text.toString());
        x.solve(1000, false);
        s.due(what, want, () -> solution(x));
    }

    private void tables() {
        s.says("Description", "With tables, positions behind a push that are stuck are not found.");
        s.due("three of four on dead cells", "1 of 2", () -> solved(room(SQUARE), 2, true));
        s.due("one on a dead cell, two frozen", "1 of 2", () -> solved(room(WALL), 2, true));
        s.due("without tables they are found", "1 of 5", () -> solved(room(WALL), 5, false));
        s.due("frozen on goals is not stuck", "1 of 2", () -> solved(room(".$-/*@-/---"), 2, true));
    }

    private void pushesOfTheSolution() {
        s.says("Description", "The solution consists of the pushes by which the solved position was found.");
        PusherRoom x = room(CORRIDOR);
        x.solve(1000, false);
        s.due("two pushes", "10r 11r", () -> solution(x));
        PusherRoom y = room(SQUARE);
        y.solve(1000, false);
        s.due("one push", "12r", () -> solution(y));
        PusherRoom z = room("--------/@-$--$--/--------/--.--.--/--------");
        s.due("two boxes, two pushes each", 4, () -> z.solve(1000, true));
        s.due("they solve it", "1 4", () -> {
            for (int i = 0; i < 4; i++) {
                z.push(z.solution(i, false), z.solution(i, true));
            }
            return z.count(10) + " " + z.count(6);
        });
        PusherRoom w = room(SOLVED);
        w.solve(1, true);
        s.due("no push", "", () -> solution(w));
    }

    private void givesUp() {
        s.says("Description", "The search gives up when more positions would be found than its limit, the first one included, "
                + "even if a solved one was found already.");
        for (int limit = 1; limit <= 6; limit++) {
            int l = limit;
            s.due("7 positions, limit " + limit, ARITHMETIC, () -> room(SQUARE).solve(l, false));
        }
        s.due("7 positions, limit 7", 1, () -> room(SQUARE).solve(7, false));
        s.due("2 positions, limit 1", ARITHMETIC, () -> room(SQUARE).solve(1, true));
        s.due("2 positions, limit 2", 1, () -> room(SQUARE).solve(2, true));
        s.due("1 position, limit 1", 0, () -> room(SOLVED).solve(1, false));
        s.due("3 positions, limit 2", ARITHMETIC, () -> room(CORRIDOR).solve(2, false));
        s.due("3 positions, limit 3", 2, () -> room(CORRIDOR).solve(3, false));
        s.due("1000 positions, limit 999", ARITHMETIC, () -> room(THOUSAND).solve(999, false));
        s.due("1000 positions, limit 1000", "11 of 1000", () -> solved(room(THOUSAND), 1000, false));
        s.due("1000 positions with tables, limit 999", ARITHMETIC, () -> room(THOUSAND_WITH_TABLES).solve(999, true));
        s.due("1000 positions with tables, limit 1000", "7 of 1000", () -> solved(room(THOUSAND_WITH_TABLES), 1000, true));
        s.due("more without tables", ARITHMETIC, () -> room(THOUSAND_WITH_TABLES).solve(1000, false));
        s.due("1000 positions in vain, limit 999", ARITHMETIC, () -> room(THOUSAND_IN_VAIN).solve(999, false));
        s.due("1000 positions in vain, limit 1000", ELEMENT, () -> room(THOUSAND_IN_VAIN).solve(1000, false));
    }

    private void solve() {
        s.says("18", "Searches for a solution with the fewest pushes, and keeps it.");
        PusherRoom x = room("------/@-$---/------/---.--");
        s.due("nothing is kept before", ELEMENT, () -> x.solution(-1, false));
        s.due("three pushes", 3, () -> x.solve(1000, true));
        s.due("they are kept", "8r 9d 15d", () -> solution(x));
        s.due("nothing is done", "------/@-$---/------/---.-- 0 0", () -> picture(x) + " " + x.count(5) + " " + x.count(7));
        x.push(8, 2);
        s.due("from another position", 2, () -> x.solve(1000, true));
        s.due("they are kept in place of the others", "14r 15d", () -> solution(x));
        s.says("18", "Returns the number of pushes.");
        s.due("0", 0, () -> room(SOLVED).solve(1000, true));
        s.due("1", 1, () -> room(SQUARE).solve(1000, true));
        s.due("2", 2, () -> room(CORRIDOR).solve(1000, true));
        s.due("4", 4, () -> room(LONG_WALK).solve(1000, true));
        s.due("pushes, not steps", 1, () -> room("@--/-$-/-.-").solve(1000, false));
    }

    private void solveParameters() {
        s.says("18", "- `limit`: the limit, 1 to 1000");
        s.due("limit 1", 0, () -> room(SOLVED).solve(1, true));
        s.due("limit 1000", 2, () -> room(CORRIDOR).solve(1000, true));
        s.says("18", "- `withTables`: whether tables are used");
        s.due("true", "1 of 2", () -> solved(room(SQUARE), 1000, true));
        s.due("false", "1 of 7", () -> solved(room(SQUARE), 1000, false));
    }

    private void solveThrows() {
        s.says("18", "Throws `IllegalArgumentException` if limit is out of range");
        for (int limit : NO_LIMITS) {
            s.due("limit " + limit, ARGUMENT, () -> room(SQUARE).solve(limit, true));
            s.due("limit " + limit + ", solved already", ARGUMENT, () -> room(SOLVED).solve(limit, false));
        }
        s.says("18", "Throws `IllegalStateException` if there is no room");
        s.due("with tables", STATE, () -> new PusherRoom().solve(1, true));
        s.due("without tables", STATE, () -> new PusherRoom().solve(1000, false));
        s.says("18", "Throws `ArithmeticException` if the search gives up");
        s.due("at 1", ARITHMETIC, () -> room(SQUARE).solve(1, false));
        s.due("at 1000", ARITHMETIC,
                () -> room("@-------/--------/--$-$---/---$----/--$-----/--------/-----.../.-------").solve(1000, false));
        s.says("18", "Throws `NoSuchElementException` if there is no solution");
        s.due("no push", ELEMENT, () -> room(HOPELESS).solve(1000, false));
        s.due("five positions, none solved", ELEMENT, () -> room(ROW).solve(1000, false));
        s.due("no push that is not stuck", ELEMENT, () -> room(ROW).solve(1000, true));
    }

    private void solution() {
        PusherRoom x = room("------/@-$---/------/---.--");
        x.solve(1000, true);
        s.says("19", "Returns a part of the solution that was kept last.");
        s.due("the first cell", 8, () -> x.solution(0, false));
        s.says("19", "- `i`: the number of the push, from 0, or -1");
        s.due("number 1", 9, () -> x.solution(1, false));
        s.due("number 2", 15, () -> x.solution(2, false));
        s.due("number -1", 3, () -> x.solution(-1, false));
        s.says("19", "- `isDirection`: false for the cell of the box before the push, true for the direction; for -1 false for "
                + "the number of pushes, true for the number of positions that the search found");
        s.due("direction of 0", 1, () -> x.solution(0, true));
        s.due("direction of 1", 2, () -> x.solution(1, true));
        s.due("direction of 2", 2, () -> x.solution(2, true));
        PusherRoom y = room(SQUARE);
        y.solve(1000, false);
        s.due("pushes and positions without tables", "1 7", () -> y.solution(-1, false) + " " + y.solution(-1, true));
        y.solve(1000, true);
        s.due("pushes and positions with tables", "1 2", () -> y.solution(-1, false) + " " + y.solution(-1, true));
        s.says("19", "Returns the part.");
        PusherRoom z = room("@----/--.--/--$--/-----");
        z.solve(1000, true);
        s.due("a direction 0", "12u", () -> solution(z));
        read(z, CORRIDOR);
        s.due("of the room that was searched, not of the present one", "12u", () -> solution(z));
    }

    private void solutionThrows() {
        s.says("19", "Throws `NoSuchElementException` if no solution was kept, or there is no such push");
        PusherRoom x = room(CORRIDOR);
        for (int i : new int[] {-1, 0, 1}) {
            s.due("none was kept: cell of " + i, ELEMENT, () -> x.solution(i, false));
            s.due("none was kept: direction of " + i, ELEMENT, () -> x.solution(i, true));
        }
        s.due("the search gives up", ARITHMETIC, () -> x.solve(2, true));
        s.due("none was kept then", ELEMENT, () -> x.solution(-1, true));
        x.solve(1000, true);
        for (int i : new int[] {2, 3, -2, 1000, Integer.MAX_VALUE, Integer.MIN_VALUE}) {
            s.due("cell of " + i, ELEMENT, () -> x.solution(i, false));
            s.due("direction of " + i, ELEMENT, () -> x.solution(i, true));
        }
        read(x, SOLVED);
        x.solve(1, true);
        s.due("no push 0 in a solution of none", ELEMENT, () -> x.solution(0, false));
        s.due("its number of pushes", 0, () -> x.solution(-1, false));
        s.due("without a room", ELEMENT, () -> new PusherRoom().solution(-1, false));
    }

    private void finish() {
        PusherRoom x = room(SQUARE);
        s.says("20", "Searches with tables, and makes the pushes of the solution, one after the other.");
        s.due("two positions are enough", 2, () -> x.finish(2));
        s.due("its steps", "dR", () -> record(x));
        s.due("the room is solved", "1 #####/#---#/#-@*#/#---#/#####", () -> x.count(10) + " " + picture(x));
        PusherRoom y = room("------/@-$---/------/---.--");
        s.due("walks between the pushes", 6, () -> y.finish(1000));
        s.due("its steps with walks", "rRurDD", () -> record(y));
        s.due("one command", 1, () -> y.count(7));
        s.says("20", "The solution is kept.");
        s.due("pushes", "8r 9d 15d", () -> solution(y));
        s.due("positions with tables", 2, () -> x.solution(-1, true));
        s.says("20", "Returns the number of steps.");
        s.due("solved already", 0, () -> y.finish(1));
        s.due("three steps", 3, () -> room(CORRIDOR).finish(1000));
        s.due("seven steps", 7, () -> room(LONG_WALK).finish(1000));
    }

    private void finishParameters() {
        s.says("20", "- `limit`: the limit, 1 to 1000");
        s.due("limit 1", 0, () -> room(SOLVED).finish(1));
        s.due("limit 1000", 3, () -> room(CORRIDOR).finish(1000));
        s.says("20", "Throws `IllegalArgumentException` as for solve");
        for (int limit : NO_LIMITS) {
            s.due("limit " + limit, ARGUMENT, () -> room(SQUARE).finish(limit));
        }
        s.says("20", "Throws `IllegalStateException` as for solve");
        s.due("no room", STATE, () -> new PusherRoom().finish(1000));
    }

    private void finishThrows() {
        s.says("20", "Throws `ArithmeticException` as for solve, or if more than 400 steps would be recorded, in which case "
                + "the solution is kept all the same");
        PusherRoom x = room(CORRIDOR);
        s.due("gives up", ARITHMETIC, () -> x.finish(2));
        s.due("nothing is kept then", ELEMENT, () -> x.solution(-1, false));
        s.due("nothing is done then", CORRIDOR + " 0", () -> picture(x) + " " + x.count(7));
        PusherRoom y = walked400();
        s.due("400 and 7", ARITHMETIC, () -> y.finish(1000));
        s.due("its solution is kept all the same", "18r 19r 20r 21r", () -> solution(y));
        s.due("nothing is done then, either", "400 3 " + LONG_WALK, () -> y.count(5) + " " + y.count(7) + " " + picture(y));
        s.says("20", "Throws `NoSuchElementException` as for solve");
        s.due("no push", ELEMENT, () -> room(HOPELESS).finish(1000));
        s.due("no push that is not stuck", ELEMENT, () -> room(ROW).finish(1000));
    }

    private void finishAtTheEndOfTheRecord() {
        s.says("20", "Throws `ArithmeticException` as for solve, or if more than 400 steps would be recorded, in which case "
                + "the solution is kept all the same");
        PusherRoom x = walked392();
        play(x, "2r2l");
        s.due("396 and 7, of which 4 would fit", ARITHMETIC, () -> x.finish(1000));
        s.due("396 are recorded", 396, () -> x.count(5));
        x.undo();
        s.due("392 and 7", 7, () -> x.finish(1000));
        PusherRoom y = room("-@------/-#######/--$---.#");
        play(y, "6r6l".repeat(20));
        play(y, "6r6l".repeat(12) + "4r4l");
        y.step(1);
        y.step(3);
        s.due("394 and 8", ARITHMETIC, () -> y.finish(1000));
        y.undo();
        y.undo();
        s.due("392 and 8", 8, () -> y.finish(1000));
        s.due("400 are recorded", 400, () -> y.count(5));
        s.due("400 and none", 0, () -> y.finish(1));
        s.due("that is a command, too", 4, () -> y.count(7));
    }
}
