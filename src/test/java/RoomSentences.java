/** The document's sentences about rooms and their texts, and promises 1 to 6. */
final class RoomSentences extends RoomTests {
    private static final String EIGHT_ROWS = "@$.-----" + "/--------".repeat(7);

    private final Sentences s;

    RoomSentences(Sentences s) {
        this.s = s;
    }

    void test() {
        whatItIs();
        sizes();
        kindsOfCells();
        beyondTheEdge();
        beyondTheEdgeInTables();
        numberOfBoxes();
        directions();
        solved();
        signs();
        rowLengths();
        faults();
        area();
        newObject();
        feed();
        readRoom();
        readRoomThrows();
        cell();
        cells();
        count();
        countAfterCommands();
    }

    /** The example of README.md. */
    private void whatItIs() {
        s.says("What it is", "A room in which a player pushes boxes to goals: steps and pushes that are refused with reasons, "
                + "areas that the player can reach, dead cells and frozen boxes, tunnels, goal rooms with an order, the fewest "
                + "pushes by a search with and without these tables, a lower bound, records that are replayed, texts of steps, "
                + "undo and snapshots.");
        PusherRoom x = new PusherRoom();
        s.due("a room is read", 5, () -> read(x, CORRIDOR));
        s.due("it is searched", 2, () -> x.solve(1000, true));
        s.due("a box is pushed", 2, () -> x.push(10, 1));
        s.due("the rest", 1, () -> x.finish(1000));
        s.due("it is solved", 1, () -> x.count(10));
    }

    private void sizes() {
        s.says("Description", "A room has 3 to 8 rows and 3 to 8 columns; its cells are numbered from 0 row by row.");
        s.due("3 rows, 3 columns", 9, () -> readAnew("@$./---/---"));
        s.due("8 rows, 8 columns", 64, () -> readAnew(EIGHT_ROWS));
        s.due("3 rows, 8 columns", 24, () -> readAnew("@$.-----/--------/--------"));
        s.due("8 rows, 3 columns", 24, () -> readAnew("@$." + "/---".repeat(7)));
        s.due("2 rows", ARITHMETIC, () -> readAnew("@$./---"));
        s.due("1 row", ARITHMETIC, () -> readAnew("@$."));
        s.due("9 rows", ARITHMETIC, () -> readAnew("@$." + "/---".repeat(8)));
        s.due("2 columns", ARITHMETIC, () -> readAnew("@$/-./--"));
        s.due("1 column", ARITHMETIC, () -> readAnew("@/$/./-"));
        s.due("9 columns", ARITHMETIC, () -> readAnew("@$.------/---------/---------"));
        PusherRoom x = room("----/--@-/-$.-");
        s.due("the player's number", 6, () -> x.count(4));
        s.due("the box's number", set(9), () -> x.cells(2));
        s.due("the goal's number", set(10), () -> x.cells(1));
        s.due("the last number of the largest room", Long.MIN_VALUE,
                () -> room("@$------" + "/--------".repeat(6) + "/-------.").cells(1));
        s.due("cell 63 has a box", Long.MIN_VALUE, () -> room("@-----.-" + "/--------".repeat(6) + "/-------$").cells(2));
        s.due("cell 63 has the player", 63, () -> room("-$----.-" + "/--------".repeat(6) + "/-------@").count(4));
    }

    private void kindsOfCells() {
        s.says("Description", "A cell is a wall or open; an open cell can be a goal, and can have a box; "
                + "the player is on an open cell without a box.");
        PusherRoom x = room("#.$*/@---/-##-");
        s.due("open cells", set(1, 2, 3, 4, 5, 6, 7, 8, 11), () -> x.cells(0));
        s.due("goals are open", set(1, 3), () -> x.cells(1));
        s.due("boxes are on open cells, goals too", set(2, 3), () -> x.cells(2));
        s.due("the player is on an open cell", 4, () -> x.count(4));
        PusherRoom y = room("+$-/---/---");
        s.due("the player on a goal", "0 1", () -> y.count(4) + " " + y.cells(1));
    }

    private void beyondTheEdge() {
        s.says("Description", "What is beyond the edge counts as wall.");
        PusherRoom x = room("@--/-$-/-.-");
        s.due("up from the first row", REFUSED, () -> x.step(0));
        s.due("left from the first column", REFUSED, () -> x.step(3));
        s.due("it is a wall", "1 0", () -> refusal(x));
        PusherRoom y = room("---/.$-/--@");
        s.due("right from the last cell", REFUSED, () -> y.step(1));
        s.due("down from the last row", REFUSED, () -> y.step(2));
        s.due("it is a wall, too", "1 8", () -> refusal(y));
        s.due("right of row 0 is not row 1", REFUSED, () -> room("--@/-$-/-.-").step(1));
        s.due("left of row 1 is not row 0", REFUSED, () -> room("---/@$./---").step(3));
        s.due("the area does not go on in the next row", set(1, 2), () -> room("#-@/-##/$.-").cells(3));
        s.due("a box upward", 2, () -> room("-$-/-@-/-.-").refuses(1, 0));
        s.due("a box to the right", 2, () -> room("---/-@$/.--").refuses(5, 1));
        s.due("a box downward", 2, () -> room("---/.@-/-$-").refuses(7, 2));
        s.due("a box to the left", 2, () -> room("--./$@-/---").refuses(3, 3));
        s.due("from above", 4, () -> room("-$-/-@-/-.-").refuses(1, 2));
        s.due("from the right", 4, () -> room("---/-@$/.--").refuses(5, 3));
        s.due("from below", 4, () -> room("---/.@-/-$-").refuses(7, 0));
        s.due("from the left", 4, () -> room("--./$@-/---").refuses(3, 1));
    }

    private void beyondTheEdgeInTables() {
        PusherRoom x = room("--@/.$-/---");
        s.due("no push around the edge", ELEMENT, () -> x.distance(2, 3));
        s.due("dead at the edge", set(0, 1, 2, 5, 6, 7, 8), () -> x.cells(4));
        s.due("tunnels in a row at the edge", set(0, 1, 2, 3), () -> room("@$--./#####/#####").cells(6));
        s.due("tunnels in a column at the edge", set(0, 3, 6), () -> room("@##/$##/-##/.##").cells(7));
        s.due("frozen in a corner", set(0), () -> room("$@./---/---").cells(5));
        s.due("frozen in the last corner", set(8), () -> room("-@./---/--$").cells(5));
        PusherRoom y = room("#@-./.-##/#$-#");
        s.due("the ends of two rows are two goal rooms", "2: 3 5: 4", () -> goalRoom(y, 0) + " " + goalRoom(y, 1));
    }

    private void numberOfBoxes() {
        s.says("Description", "There are 1 to 5 boxes, and at least as many goals.");
        s.due("no box", ARITHMETIC, () -> readAnew("@-./---/---"));
        s.due("1 box", 9, () -> readAnew("@$./---/---"));
        s.due("5 boxes", 18, () -> readAnew("@$$$$$/.....-/------"));
        s.due("5 boxes are there", 5, () -> room("@$$$$$/.....-/------").count(2));
        s.due("6 boxes", -106, () -> readAnew("@$$$$$$/......-/-------"));
        s.due("6 boxes on goals", -106, () -> readAnew("@******/-------/-------"));
        s.due("4 goals for 5 boxes", ARITHMETIC, () -> readAnew("@$$$$$/....--/------"));
        s.due("no goal for 1 box", ARITHMETIC, () -> readAnew("@$-/---/---"));
        s.due("the goal has the box", 9, () -> readAnew("@*-/---/---"));
        s.due("the goal has the player", 9, () -> readAnew("+$-/---/---"));
        s.due("1 of 2 boxes has a goal", ARITHMETIC, () -> readAnew("@*$/---/---"));
        s.due("more goals than boxes", 9, () -> readAnew("@$./.../..."));
    }

    private void directions() {
        s.says("Description", "The directions are 0 up, 1 right, 2 down, 3 left; the neighbor of a cell in a direction is "
                + "the cell beside it, and its neighbor behind is the one in the opposite direction.");
        int[] neighbors = {7, 13, 17, 11};
        int[] behind = {17, 11, 7, 13};
        for (int d = 0; d < 4; d++) {
            int direction = d;
            PusherRoom x = room("$---./-----/--@--/-----/-----");
            s.due("the player goes in direction " + d, "0 " + neighbors[d], () -> x.step(direction) + " " + x.count(4));
            PusherRoom y = room("@---./-----/--$--/-----/-----");
            y.push(12, d);
            s.due("the box goes in direction " + d, set(neighbors[d]), () -> y.cells(2));
            String way = record(y);
            s.due("the push of direction " + d, "URDL".charAt(d), () -> way.charAt(way.length() - 1));
            PusherRoom z = room("@---./-----/--$--/-----/-----");
            play(z, way.substring(0, way.length() - 1));
            s.due("the neighbor behind in direction " + d, behind[d], () -> z.count(4));
        }
    }

    private void solved() {
        s.says("Description", "The room is solved if all boxes are on goals.");
        s.due("one of two", 0, () -> room("@*$/.--/---").count(10));
        s.due("both", 1, () -> room(SOLVED).count(10));
        s.due("one, and a goal is left", 1, () -> room("@*./---/---").count(10));
        PusherRoom x = room(CORRIDOR);
        x.push(10, 1);
        s.due("a push before", 0, () -> x.count(10));
        x.push(11, 1);
        s.due("pushed onto it", 1, () -> x.count(10));
        PusherRoom y = room("-----/@*---/---.-");
        y.push(6, 1);
        s.due("pushed off it", 0, () -> y.count(10));
    }

    private void signs() {
        s.says("Description", "A text describes a room row by row, with \"/\" between one row and the next: \"#\" is a wall, "
                + "\"-\" an open cell, \".\" a goal, \"$\" a box, \"*\" a box on a goal, \"@\" the player, "
                + "\"+\" the player on a goal.");
        PusherRoom x = room("#-.$*@/------/######");
        s.due("# alone is no open cell", set(1, 2, 3, 4, 5, 6, 7, 8, 9, 10, 11), () -> x.cells(0));
        s.due(". and * are goals", set(2, 4), () -> x.cells(1));
        s.due("$ and * are boxes", set(3, 4), () -> x.cells(2));
        s.due("@ is the player", 5, () -> x.count(4));
        s.due("the text again", "#-.$*@/------/######", () -> picture(x));
        PusherRoom y = room("#-.$*+/------/######");
        s.due("+ is the player", 5, () -> y.count(4));
        s.due("+ is a goal", set(2, 4, 5), () -> y.cells(1));
        s.due("the text with + again", "#-.$*+/------/######", () -> picture(y));
        for (char sign = 32; sign < 127; sign++) {
            char c = sign;
            String text = "-" + c + (c == '/' ? "-" : "");
            s.due("sign " + c + " in a text", "#-.$*@+/".indexOf(c) >= 0 ? ARITHMETIC : "-101", () -> readAnew(text));
        }
    }

    private void rowLengths() {
        s.says("Description", "All rows have the same length, which is at least 1.");
        s.due("three rows of length 1", ARITHMETIC, () -> readAnew("#/#/#"));
        s.due("length 0", -100, () -> readAnew("/"));
        s.due("length 0 behind a row", -102, () -> readAnew("#//#"));
        s.due("length 0 at the end", -102, () -> readAnew("#/"));
        s.due("a second row that is shorter", -104, () -> readAnew("##/#/##"));
        s.due("a second row that is longer", -105, () -> readAnew("##/###/##"));
        s.due("a third row that is shorter", -113, () -> readAnew("@$.-/----/---"));
        s.due("a third row that is longer", -114, () -> readAnew("@$.-/----/-----"));
    }

    private void faults() {
        s.says("Description", "The fault position of a text is the offset of the first character with which, after the "
                + "characters before it, no room of any size can go on, or the length of the text if it ends too early; "
                + "a second player, a sixth box, a \"/\" behind a row that is too short, and a character that makes a row "
                + "too long cannot go on; behind a \"/\" a text ends too early.");
        String[] texts = {"x", "#x", " ", "@-$./0", "#\\", "@@", "@+", "+@", "++", "@-/-@", "@-/+-", "$$$$$$", "*$*$*$",
            "$$/*-/$*/-$", "##/#/", "###/##/###", "##/###", "#/##", "##/##/##$", "#/", "##/##/", "@$./---/---/",
            "", "##/#", "###/##", "@$./---/-", "@@x", "##/#x", "@$-/-x-", "/", "//", "#".repeat(9) + "/#/",
            "-".repeat(79) + "x", "#/".repeat(40), "-".repeat(39) + "/" + "-".repeat(39) + "/", "-".repeat(66) + "@-+",
            "-".repeat(64) + "$$$$$*", "@" + "-".repeat(77) + "/", "#".repeat(40) + "/" + "#".repeat(39)};
        int[] faults = {0, 1, 0, 5, 1, 1, 1, 1, 1, 4, 3, 5, 5,
            10, 4, 6, 5, 3, 8, 2, 6, 12,
            0, 4, 6, 9, 1, 4, 5, 0, 0, 11,
            79, 80, 80, 68,
            69, 79, 80};
        for (int i = 0; i < texts.length; i++) {
            String text = texts[i];
            s.due("text " + text, -100 - faults[i], () -> readAnew(text));
        }
        String[] whole = {"#", "#########", "#".repeat(80), "#/".repeat(39) + "#", "###/###/###", "@", "$$$$$", "@/$/.",
            "-".repeat(39) + "/" + "-".repeat(39), "@$$$$$/......"};
        for (String text : whole) {
            s.due("of some size, no fault: " + text, ARITHMETIC, () -> readAnew(text));
        }
    }

    private void area() {
        s.says("Description", "The area of the player consists of the open cells without boxes that it can reach by steps "
                + "that push no box, its own cell included.");
        s.due("between four boxes", set(4), () -> room(".$./$@$/.$.").cells(3));
        s.due("up to a box", set(8, 9), () -> room(CORRIDOR).cells(3));
        s.due("around a box", set(6, 7, 8, 11, 13, 16, 17, 18), () -> room(SQUARE).cells(3));
        s.due("not over a corner", set(0), () -> room("@#-/#$-/..-").cells(3));
        s.due("up to walls", set(0, 1, 4), () -> room("@-#./-#-$/##--").cells(3));
    }

    private void newObject() {
        s.says("1", "Creates a pusher without a room.");
        PusherRoom x = new PusherRoom();
        s.due("no cells", STATE, () -> x.cells(0));
        s.due("no cell", STATE, () -> x.cell(0, 0));
        for (int what = 0; what <= 11; what++) {
            int w = what;
            s.due("count " + w, 0, () -> x.count(w));
        }
        s.due("nothing can be undone", STATE, x::undo);
        s.due("no snapshot", STATE, x::restoreSnapshot);
        s.due("no refusal", ELEMENT, () -> x.refusal(false));
        s.due("no refused step", ELEMENT, x::refused);
        s.due("no solution", ELEMENT, () -> x.solution(-1, false));
        s.due("no step", INDEX, () -> x.recorded(0));
        s.due("a room can be read", 9, () -> read(x, "@$./---/---"));
        s.due("two objects have two rooms", STATE, () -> new PusherRoom().cells(0));
    }

    private void feed() {
        PusherRoom x = new PusherRoom();
        s.says("2", "Appends a character to the input, which is empty at first.");
        s.due("empty at first", 0, () -> x.count(11));
        s.due("empty at first: a text that ends too early", -100, x::readRoom);
        type(x, "#x");
        s.due("appended, not put before", -101, x::readRoom);
        type(x, "x#");
        s.due("in their order", -100, x::readRoom);
        s.says("2", "Returns the length of the input.");
        for (int i = 1; i <= 80; i++) {
            s.due("character " + i, i, () -> x.feed('-'));
        }
        s.says("2", "Throws `IllegalStateException` if the input has 80 characters");
        s.due("character 81", STATE, () -> x.feed('-'));
        s.due("80 characters are there still", 80, () -> x.count(11));
        s.due("their text has 80 cells in a row", ARITHMETIC, x::readRoom);
        s.due("a first one again", 1, () -> x.feed('-'));
        s.says("2", "Throws `IllegalArgumentException` if its code is not from 32 to 126");
        for (int code : new int[] {0, 9, 10, 31, 127, 128, 160, 255, 256 + 65, 65535}) {
            s.due("code " + code, ARGUMENT, () -> x.feed((char) code));
        }
        s.due("nothing was appended", 1, () -> x.count(11));
        s.due("code 32", 2, () -> x.feed((char) 32));
        s.due("code 126", 3, () -> x.feed((char) 126));
    }

    private void readRoom() {
        s.says("3", "Reads the input as a room, in place of the present one; nothing can be undone then.");
        PusherRoom x = room(CORRIDOR);
        x.step(1);
        x.step(1);
        s.due("the other room", 9, () -> read(x, SQUARE));
        s.due("its cells", SQUARE, () -> picture(x));
        s.due("its tables", set(6, 7, 8, 11, 16, 17, 18), () -> x.cells(4));
        s.due("no steps, pushes and commands", "0 0 0", () -> x.count(5) + " " + x.count(6) + " " + x.count(7));
        s.due("nothing can be undone", STATE, x::undo);
        s.due("the same room once more", 9, () -> read(x, SQUARE));
        x.step(1);
        s.due("a fault", -101, () -> read(x, "#x"));
        s.due("a wrong size", ARITHMETIC, () -> read(x, "@$."));
        s.due("the present room stays then", "#####/#-@-#/#-$.#/#---#/#####", () -> picture(x));
        s.due("what could be undone can be undone then", "1 0", () -> x.count(7) + " " + x.undo());

        s.says("3", "The input is empty afterwards in any case.");
        for (String text : new String[] {SQUARE, "#x", "", "##/", "@$.", "---/---/---", "@$$/.--/---"}) {
            PusherRoom y = new PusherRoom();
            read(y, text);
            s.due("after " + text, 0, () -> y.count(11));
            s.due("a text of its own after " + text, -101, () -> read(y, "#?"));
        }

        s.says("3", "Returns the number of open cells; -100 minus the fault position if the input is no room of any size.");
        s.due("5 open cells", 5, () -> readAnew(CORRIDOR));
        s.due("64 open cells", 64, () -> readAnew(EIGHT_ROWS));
        s.due("3 open cells", 3, () -> readAnew("###/@$./###"));
        s.due("fault at 0", -100, () -> readAnew("u"));
        s.due("fault at 80", -180, () -> readAnew("#/".repeat(40)));
        s.due("a fault in what could be no room of 3 to 8 rows", -109, () -> readAnew("#########x"));
        s.due("a fault in a text without a player", -107, () -> readAnew("-$./---x---"));
    }

    private void readRoomThrows() {
        s.says("3", "Throws `ArithmeticException` if there are not 3 to 8 rows and 3 to 8 columns, or there is no player or "
                + "no box, or there are fewer goals than boxes");
        String[] wrong = {"@$./---", "@$/-./--", "@$." + "/---".repeat(8), "@$.------/---------/---------",
            "-$./---/---", "-*-/---/---", "@-./---/---", "@$-/---/---", "@$$/.--/---", "+$$/---/---", "@*$/---/---",
            "###/###/###", "#", "@$$$$$/....--/------"};
        for (String text : wrong) {
            PusherRoom x = new PusherRoom();
            s.due(text, ARITHMETIC, () -> read(x, text));
            s.due("no room after " + text, STATE, () -> x.cells(0));
        }
        s.due("as many goals as boxes", 9, () -> readAnew("@$$/..-/---"));
    }

    private void cell() {
        PusherRoom x = room("+$-./#*--/----");
        s.says("4", "Returns a cell of the room as a character of its text.");
        s.due("the room's text", "+$-./#*--/----", () -> picture(x));
        s.says("4", "Returns the character.");
        s.due("row 0, column 3", '.', () -> x.cell(0, 3));
        s.due("row 1, column 0", '#', () -> x.cell(1, 0));
        s.due("row 2, column 3", '-', () -> x.cell(2, 3));
        x.step(1);
        s.due("a goal that the player left", '.', () -> x.cell(0, 0));
        s.due("the player off the goals", '@', () -> x.cell(0, 1));
        s.due("the box", '$', () -> x.cell(0, 2));
        x.step(1);
        s.due("the box on a goal", '*', () -> x.cell(0, 3));
        s.says("4", "Throws `IllegalStateException` if there is no room");
        s.due("row 0, column 0", STATE, () -> new PusherRoom().cell(0, 0));
        s.says("4", "Throws `IndexOutOfBoundsException` if there is no such cell");
        s.due("row -1", INDEX, () -> x.cell(-1, 0));
        s.due("row 3", INDEX, () -> x.cell(3, 0));
        s.due("column -1, though it would be cell 3", INDEX, () -> x.cell(1, -1));
        s.due("column 4, though it would be cell 4", INDEX, () -> x.cell(0, 4));
        s.due("far away", INDEX, () -> x.cell(Integer.MAX_VALUE, Integer.MAX_VALUE));
        s.due("far away on the other side", INDEX, () -> x.cell(Integer.MIN_VALUE, Integer.MIN_VALUE));
    }

    private void cells() {
        s.says("5", "Returns a set of cells, bit c for cell c.");
        PusherRoom x = room("#-------" + "/--------".repeat(5) + "/--$-----/@------.");
        s.due("all but cell 0", -2L, () -> x.cells(0));
        s.says("5", "Returns the set.");
        s.due("cell 63 alone", Long.MIN_VALUE, () -> x.cells(1));
        s.due("cell 50 alone", 1L << 50, () -> x.cells(2));
        s.says("5", "- `what`: 0 the open cells; 1 the goals; 2 the boxes; 3 the area of the player; 4 the dead cells; "
                + "5 the frozen boxes; 6 the tunnels in their row; 7 the tunnels in their column; 8 the boxes on goals");
        PusherRoom y = room("-$*@.-/#-####/-.####/-.####");
        long[] sets = {set(0, 1, 2, 3, 4, 5, 7, 12, 13, 18, 19), set(2, 4, 13, 19), set(1, 2), set(3, 4, 5), set(0, 5, 12, 18),
            set(1, 2), set(0, 3, 5), set(7), set(2)};
        for (int what = 0; what < sets.length; what++) {
            int w = what;
            s.due("what " + w, sets[w], () -> y.cells(w));
        }
        s.says("5", "Throws `IllegalArgumentException` if what is not valid");
        s.due("what -1", ARGUMENT, () -> y.cells(-1));
        s.due("what 9", ARGUMENT, () -> y.cells(9));
        s.due("what far away", ARGUMENT, () -> y.cells(Integer.MIN_VALUE));
        s.says("5", "Throws `IllegalStateException` if there is no room");
        s.due("what 0", STATE, () -> new PusherRoom().cells(0));
        s.due("what 8", STATE, () -> new PusherRoom().cells(8));
    }

    private void count() {
        s.says("6", "Returns a count.");
        s.due("3 rows", 3, () -> room(CORRIDOR).count(0));
        s.says("6", "Returns the count; without a room all but the last one are 0.");
        PusherRoom none = new PusherRoom();
        none.feed('#');
        for (int what = 0; what <= 10; what++) {
            int w = what;
            s.due("without a room, what " + w, 0, () -> none.count(w));
        }
        s.due("without a room, the last one", 1, () -> none.count(11));
        s.says("6", "Throws `IllegalArgumentException` if what is not valid");
        s.due("what -1", ARGUMENT, () -> room(CORRIDOR).count(-1));
        s.due("what 12", ARGUMENT, () -> room(CORRIDOR).count(12));
        s.due("what -1 without a room", ARGUMENT, () -> none.count(-1));
        s.due("what 12 without a room", ARGUMENT, () -> none.count(12));
    }

    private void countAfterCommands() {
        s.says("6", "- `what`: 0 the rows; 1 the columns; 2 the boxes; 3 the goals; 4 the cell of the player; 5 the steps "
                + "that were recorded; 6 the pushes among them; 7 the commands that can be undone; 8 the connected groups of "
                + "open cells without boxes, the one of the player being such a cell; 9 the goal rooms; 10 whether the room "
                + "is solved (1 or 0); 11 the length of the input");
        // A goal room at each end of a corridor, with a box before it; two open cells without a way to them.
        PusherRoom x = room("########/#.$-@$.#/########/#####-##/######-#");
        type(x, "abc");
        int[] before = {5, 8, 2, 2, 12, 0, 0, 0, 5, 2, 0, 3};
        for (int what = 0; what < before.length; what++) {
            int w = what;
            s.due("before commands, what " + w, before[w], () -> x.count(w));
        }
        x.step(1);
        x.step(3);
        x.push(10, 3);
        int[] after = {5, 8, 2, 2, 10, 4, 2, 3, 3, 2, 1, 3};
        for (int what = 0; what < after.length; what++) {
            int w = what;
            s.due("after commands, what " + w, after[w], () -> x.count(w));
        }
        s.due("the player's cell is a group by itself", 5, () -> room(".$./$@$/.$.").count(8));
        s.due("one group", 1, () -> room(SQUARE).count(8));
        s.due("groups do not touch at corners", 4, () -> room("@#-#/#-#-/$.##").count(8));
    }
}
