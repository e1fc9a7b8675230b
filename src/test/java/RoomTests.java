/** What the tests by hand share: rooms, names of exceptions, and ways to make and look at an object. */
abstract class RoomTests {
    static final String ARGUMENT = "IllegalArgumentException";
    static final String STATE = "IllegalStateException";
    static final String INDEX = "IndexOutOfBoundsException";
    static final String ARITHMETIC = "ArithmeticException";
    static final String ELEMENT = "NoSuchElementException";
    static final String REFUSED = "UnsupportedOperationException";

    /** Player 8, box 10, goal 12, all in one row: cells 8 to 12 are open. */
    static final String CORRIDOR = "#######/#@-$-.#/#######";
    /** Cells 6 to 8, 11 to 13, 16 to 18 are open: player 6, box 12, goal 13. */
    static final String SQUARE = "#####/#@--#/#-$.#/#---#/#####";
    /** A row to walk to and fro, and below it a box (18) in a tunnel that ends at a goal (22). */
    static final String LONG_WALK = "@-------/-#######/--$---.#";
    /** No pushes are needed. */
    static final String SOLVED = "@**/---/---";
    /** The box is in a corner: no push is possible. */
    static final String HOPELESS = "$--/-@-/-.-";

    static void type(PusherRoom x, String text) {
        for (char c : text.toCharArray()) {
            x.feed(c);
        }
    }

    static String read(PusherRoom x, String text) {
        type(x, text);
        return Check.answerOf(x::readRoom);
    }

    /** What a new object answers to the text of a room. */
    static String readAnew(String text) {
        return read(new PusherRoom(), text);
    }

    static String play(PusherRoom x, String text) {
        type(x, text);
        return Check.answerOf(x::play);
    }

    static PusherRoom room(String text) {
        PusherRoom x = new PusherRoom();
        String answer = read(x, text);
        if (!answer.matches("[0-9]+")) {
            throw new AssertionError("room " + text + " is not read: " + answer);
        }
        return x;
    }

    /** LONG_WALK, with 280 + 112 steps recorded by two commands. */
    static PusherRoom walked392() {
        PusherRoom x = room(LONG_WALK);
        play(x, "7r7l".repeat(20));
        play(x, "7r7l".repeat(8));
        return x;
    }

    /** LONG_WALK, with 400 steps recorded by three commands. */
    static PusherRoom walked400() {
        PusherRoom x = walked392();
        play(x, "4r4l");
        return x;
    }

    /** The room as its text. */
    static String picture(PusherRoom x) {
        StringBuilder text = new StringBuilder();
        int rows = x.count(0);
        int columns = x.count(1);
        for (int r = 0; r < rows; r++) {
            text.append(r > 0 ? "/" : "");
            for (int c = 0; c < columns; c++) {
                text.append(x.cell(r, c));
            }
        }
        return text.toString();
    }

    static String record(PusherRoom x) {
        StringBuilder text = new StringBuilder();
        int steps = x.count(5);
        for (int i = 0; i < steps; i++) {
            text.append(x.recorded(i));
        }
        return text.toString();
    }

    /** Reason and detail that are kept. */
    static String refusal(PusherRoom x) {
        return x.refusal(false) + " " + x.refusal(true);
    }

    /** Reason and detail of the stuck room. */
    static String stuck(PusherRoom x) {
        return x.stuck(false) + " " + x.stuck(true);
    }

    /** The pushes of the solution that is kept: cell and direction, one after the other. */
    static String solution(PusherRoom x) {
        StringBuilder text = new StringBuilder();
        int pushes = x.solution(-1, false);
        for (int i = 0; i < pushes; i++) {
            text.append(i > 0 ? " " : "").append(x.solution(i, false)).append("urdl".charAt(x.solution(i, true)));
        }
        return text.toString();
    }

    /** The entrance of a goal room and its order. */
    static String goalRoom(PusherRoom x, int room) {
        StringBuilder text = new StringBuilder();
        text.append(x.goalRoom(room, -1)).append(':');
        for (int i = 0; i < x.goalRoom(room, -2); i++) {
            text.append(' ').append(x.goalRoom(room, i));
        }
        return text.toString();
    }

    static long set(int... cells) {
        long set = 0;
        for (int c : cells) {
            set |= 1L << c;
        }
        return set;
    }
}
