/** The document's sentences about steps, pushes, texts of steps and long pushes. */
final class StepSentences extends RoomTests {
    /** No step is possible: a text of steps is refused at its step 0, any other text has a fault. */
    private static final String CELL = "####/#@#$/###.";

    private final Sentences s;

    StepSentences(Sentences s) {
        this.s = s;
    }

    void test() {
        steps();
        refusedSteps();
        reasons();
        pushes();
        reasonFour();
        ways();
        waysBySides();
        grammar();
        letters();
        elements();
        lettersThatDoNotFit();
        faults();
        longPushes();
        longPushesEnd();
    }

    /** A room of 5 rows and 5 columns with signs on some cells. */
    private static PusherRoom five(int player, int... boxes) {
        StringBuilder text = new StringBuilder("-----/-----/-----/-----/-----");
        put(text, 0, '.');
        put(text, 4, '.');
        for (int box : boxes) {
            put(text, box, '$');
        }
        put(text, player, '@');
        return room(text.toString());
    }

    private static void put(StringBuilder text, int cell, char sign) {
        text.setCharAt(cell / 5 * 6 + cell % 5, sign);
    }

    private void steps() {
        s.says("Description", "A step takes the player to the neighbor in a direction.");
        int[] neighbors = {7, 13, 17, 11};
        for (int d = 0; d < 4; d++) {
            int direction = d;
            PusherRoom x = five(12, 20);
            x.step(direction);
            s.due("direction " + d, neighbors[d], () -> x.count(4));
            s.due("the box stays, direction " + d, set(20), () -> x.cells(2));
        }
        s.says("Description", "If a box is there, it is pushed to its own neighbor in this direction.");
        int[] behind = {17, 11, 7, 13};
        for (int d = 0; d < 4; d++) {
            int direction = d;
            PusherRoom x = five(behind[d], 12, 20);
            s.due("direction " + d, 1, () -> x.step(direction));
            s.due("the player is where the box was, direction " + d, 12, () -> x.count(4));
            s.due("the box is on its neighbor, direction " + d, set(neighbors[d], 20), () -> x.cells(2));
        }
    }

    private void refusedSteps() {
        s.says("Description", "A step is refused for the first of these reasons that applies; the detail is a cell:");
        PusherRoom x = room("-----/-$$@-/-$---/..--./-----");
        s.due("onto another box", REFUSED, () -> x.step(3));
        s.due("its reason and detail", "3 6", () -> refusal(x));
        s.due("nothing is done", "-----/-$$@-/-$---/..--./----- 0 0", () -> picture(x) + " " + x.count(5) + " " + x.count(7));
        s.due("another one is not refused", 0, () -> x.step(0));
        s.due("a wall", REFUSED, () -> x.step(0));
        s.due("the later reason and detail", "1 3", () -> refusal(x));
    }

    private void reasons() {
        int[] neighbors = {7, 13, 17, 11};
        int[] beyond = {2, 14, 22, 10};
        s.says("Description", "1: the neighbor is a wall; the cell where the player is");
        for (int d = 0; d < 4; d++) {
            PusherRoom x = room(CELL);
            int direction = d;
            s.due("direction " + d, REFUSED, () -> x.step(direction));
            s.due("reason and detail, direction " + d, "1 5", () -> refusal(x));
        }
        s.says("Description", "2: the box would be pushed into a wall; the cell of the box");
        for (int d = 0; d < 4; d++) {
            PusherRoom x = room("..#../--$--/#$@$#/--$--/--#--");
            int direction = d;
            s.due("direction " + d, REFUSED, () -> x.step(direction));
            s.due("reason and detail, direction " + d, "2 " + neighbors[d], () -> refusal(x));
        }
        s.says("Description", "3: the box would be pushed onto another box; the cell of this other box");
        for (int d = 0; d < 4; d++) {
            PusherRoom x = five(12, neighbors[d], beyond[d]);
            int direction = d;
            s.due("direction " + d, REFUSED, () -> x.step(direction));
            s.due("reason and detail, direction " + d, "3 " + beyond[d], () -> refusal(x));
        }
    }

    private void pushes() {
        s.says("Description", "A push of a box in a direction means: the player walks to the neighbor behind the box, without "
                + "pushing, and with no step if it is there already, and pushes it.");
        PusherRoom x = room(SQUARE);
        s.due("a walk and a push", 2, () -> x.push(12, 2));
        s.due("its steps", "rD", () -> record(x));
        s.due("the player is where the box was", 12, () -> x.count(4));
        PusherRoom y = room(CORRIDOR);
        y.step(1);
        s.due("there already", 1, () -> y.push(10, 1));
        s.due("a step and a push", "rR", () -> record(y));
        PusherRoom z = room("@$---/-----/--$--/-.-.-");
        s.due("around a box, that is not pushed", 4, () -> z.push(12, 2));
        s.due("its steps around", "drrD", () -> record(z));
        s.due("the other box stays", set(1, 17), () -> z.cells(2));
    }

    private void reasonFour() {
        s.says("Description", "It is refused, before 2 and 3, for the reason 4 if the player cannot get there; the detail is "
                + "the cell of the box.");
        four("@#-$#/##.##/#####", 3, 1, "4 3", "into a wall, the place behind cannot be reached");
        four("@#-$$/##.##/##.##", 3, 1, "4 3", "onto a box, the place behind cannot be reached");
        four("@#-$-/##.##/#####", 3, 1, "4 3", "to an open cell, the place behind cannot be reached");
        four(CORRIDOR, 10, 0, "4 10", "walls on both sides");
        four(CORRIDOR, 10, 3, "4 10", "behind the box itself");
        four("#$$@./----./-----", 1, 3, "4 1", "a box behind, a wall ahead");
        four("$$$@-/-----/-...-", 1, 3, "4 1", "a box behind, a box ahead");
        four("-$-/-@-/-.-", 1, 2, "4 1", "from beyond the edge");
        four("-$-/-@-/-.-", 1, 0, "2 1", "reached: into a wall");
        four("------/@$$---/------/-..---", 7, 1, "3 8", "reached: onto a box");
    }

    private void four(String text, int cell, int direction, String want, String what) {
        PusherRoom x = room(text);
        s.due(what, REFUSED, () -> x.push(cell, direction));
        s.due(what + ": reason and detail", want, () -> refusal(x));
        s.due(what + ": nothing is done", text, () -> picture(x));
    }

    private void ways() {
        s.says("Description", "Of the ways with the fewest steps, the player takes the one whose directions come first as "
                + "numbers, one after the other.");
        way("@----/-----/--$--/-----/----.", 12, 1, "rddR", "right before down");
        way("@#---/-----/--$--/-----/----.", 12, 1, "drdR", "the second direction decides");
        way("@----/-$---/--$--/-----/---..", 12, 1, "ddrR", "the only way");
        way("-----/-----/--$--/-----/.---@", 12, 3, "uulL", "up before left");
        way("-----/-----/--$--/----#/.---@", 12, 3, "luuL", "left first, where up is a wall");
        way("@----/-----/--$--/-----/.----", 12, 3, "rrrddL", "right all the way before down");
        way("----./-----/--$--/-----/@----", 12, 0, "urrU", "up before right");
        way("----@/-----/--$--/-----/.----", 12, 1, "dllldR", "down before left, past the box");
    }

    private void waysBySides() {
        way("--@--/--$--/-----/-.---", 7, 0, "rddlU", "around at the right, not at the left");
        way("-----/-----/-@$--/-----/----.", 12, 3, "urrdL", "around above, not below");
        way("-----/-----/--$@-/-----/----.", 12, 1, "ulldR", "around above, to the left");
        way("-----/--$--/--@--/-----/----.", 7, 2, "ruulD", "around at the right, upward");
        way("---#-/--$--/--@--/-----/----.", 7, 2, "luurD", "around at the left, where there is a wall at the right");
    }

    private void way(String text, int cell, int direction, String want, String what) {
        PusherRoom x = room(text);
        s.due(what, want.length(), () -> x.push(cell, direction));
        s.due(what + ": its steps", want, () -> record(x));
    }

    private void isText(String text) {
        s.due("a text of steps: " + text, REFUSED, () -> play(room(CELL), text));
    }

    private void isFault(String text, int at) {
        s.due("no text of steps: " + text, -100 - at, () -> play(room(CELL), text));
    }

    private void grammar() {
        s.says("Description", "The grammar is, with terminals in quotes:");
        isText("u3R12d");
        isFault("u3R12", 5);
        s.says("Description", "steps: element { element }");
        isFault("", 0);
        isText("u");
        isText("ur");
        isText("2u2r");
        isText("u".repeat(80));
        isText("9u".repeat(40));
        s.says("Description", "element: [ number ] letter");
        isText("5u");
        isFault("5", 1);
        isFault("u5", 2);
        isText("u5u");
        isFault("-u", 0);
        isFault("(u)", 0);
        s.says("Description", "number: digit from 1 to 9 [ digit ]");
        for (int digit = 1; digit <= 9; digit++) {
            isText(digit + "u");
            isText(digit + "0u");
            isText(digit + "9u");
            isFault(digit + "00u", 2);
        }
        isFault("0u", 0);
        isFault("01u", 0);
        isFault("00u", 0);
        isFault("u0u", 1);
        isFault("100u", 2);
        isFault("999u", 2);
        isFault("1-u", 1);
    }

    private void letters() {
        s.says("Description", "letter: \"u\" | \"r\" | \"d\" | \"l\" | \"U\" | \"R\" | \"D\" | \"L\"");
        for (char sign = 32; sign < 127; sign++) {
            if ("urdlURDL".indexOf(sign) >= 0) {
                isText("" + sign);
                isText("7" + sign);
            } else {
                isFault("" + sign, sign >= '1' && sign <= '9' ? 1 : 0);
                isFault("77" + sign, 2);
            }
        }
    }

    private void elements() {
        s.says("Description", "An element is as many steps as its number says, 1 without one, up, right, down or left.");
        PusherRoom x = room("@-------/--------/--$-----/--------/--------/-----.--/--------/--------");
        s.due("one step right", 1, () -> play(x, "r"));
        s.due("one step with a number", 1, () -> play(x, "1r"));
        s.due("five steps right", "5 7", () -> play(x, "5r") + " " + x.count(4));
        s.due("seven steps down", "7 63", () -> play(x, "7d") + " " + x.count(4));
        s.due("seven steps left", "7 56", () -> play(x, "7l") + " " + x.count(4));
        s.due("seven steps up", "7 0", () -> play(x, "7u") + " " + x.count(4));
        s.due("all of them", "rrrrrrrdddddddllllllluuuuuuu", () -> record(x));
        s.due("the first of a number's steps that is refused", "UnsupportedOperationException 7",
                () -> play(x, "10r") + " " + x.refused());
        s.due("the same in a later element", "UnsupportedOperationException 9", () -> play(x, "rl99r") + " " + x.refused());
        s.due("none of them is made", 0, () -> x.count(4));
        s.due("pushes by a number", "6", () -> play(x, "2dr3R"));
        s.due("the box was pushed by each of them", set(21), () -> x.cells(2));
    }

    private void lettersThatDoNotFit() {
        s.says("Description", "A step by a small letter that would push a box is refused for the reason 5, a step by a capital "
                + "letter that would push none for the reason 6, if it is not refused otherwise; the detail of both is the "
                + "cell where the player is ahead of this step.");
        String text = "-----/-$@--/-$---/..--./-----";
        unfit(text, "l", "0 5 7", "a small letter would push");
        unfit(text, "dl", "1 5 12", "the second small letter would push");
        unfit(text, "R", "0 6 7", "a capital letter pushes none");
        unfit(text, "uR", "1 6 2", "the second capital letter pushes none");
        unfit(text, "uU", "1 1 2", "a capital letter into a wall: otherwise");
        unfit(text, "uu", "1 1 2", "a small letter into a wall");
        unfit(text, "Ll", "1 2 5", "a small letter, the box into a wall: otherwise");
        unfit(text, "2L", "1 2 5", "a capital letter, the box into a wall");
        unfit("-----/@$$--/-----/--..-", "r", "0 3 7", "a small letter, onto a box: otherwise");
        unfit("-----/@$$--/-----/--..-", "R", "0 3 7", "a capital letter, onto a box");
        unfit("@-$--/-----/----.", "2r", "1 5 1", "the second step of an element would push");
        unfit("@$---/-----/----.", "RlR", "2 6 0", "a capital letter where the box was");
    }

    private void unfit(String room, String steps, String want, String what) {
        PusherRoom x = room(room);
        s.due(what, REFUSED, () -> play(x, steps));
        s.due(what + ": step, reason and detail", want, () -> x.refused() + " " + refusal(x));
    }

    private void faults() {
        s.says("Description", "The fault position is the offset of the first character that cannot continue such a text, or "
                + "the length of the text if it ends too early.");
        String[] texts = {"", "0u", "5", "u9", "99", "999u", "100u", "u0r", "x", "ru ", "u u", "ru12", "UU1", "9a", "1/",
            " u", "12345", "1u2", "u-1r", "uRx", "xx", "5u0", "u".repeat(79) + "9", "u".repeat(79) + "x", "9".repeat(80),
            "u".repeat(78) + "10"};
        int[] faults = {0, 0, 1, 2, 2, 2, 2, 1, 0, 2, 1, 4, 3, 1, 1,
            0, 2, 3, 1, 2, 0, 2, 80, 79, 2,
            80};
        for (int i = 0; i < texts.length; i++) {
            isFault(texts[i], faults[i]);
        }
    }

    private void longPushes() {
        s.says("Description", "A long push of a box in a direction is a push, after which further pushes in the same direction "
                + "follow as long as the box is on a tunnel in this line and the next push is not refused.");
        PusherRoom x = room(LONG_WALK);
        s.due("a walk and four pushes", 4, () -> x.longPush(18, 1));
        s.due("their steps", "ddrRRRR", () -> record(x));
        s.due("the box is at the end", set(22), () -> x.cells(2));
        s.due("up", 3, () -> room("#.#/#-#/#-#/#$#/#@#").longPush(10, 0));
        s.due("right", 3, () -> room("######/@$--.#/######").longPush(7, 1));
        s.due("down", 3, () -> room("#@#/#$#/#-#/#-#/#.#").longPush(4, 2));
        s.due("left", 3, () -> room("######/#.--$@/######").longPush(10, 3));
    }

    private void longPushesEnd() {
        s.due("not beyond a goal", 2, () -> room("#######/@$-.--#/#######").longPush(8, 1));
        s.due("up to a wall", 3, () -> room("#######/-@$---#/.######").longPush(9, 1));
        PusherRoom y = room("#######/@$---$#/#####.#/#####.#");
        s.due("up to another box", 3, () -> y.longPush(8, 1));
        s.due("nothing was refused", ELEMENT, () -> y.refusal(false));
        s.due("the next push would be refused", 3, () -> y.refuses(11, 1));
        s.due("up to a crossing", 2, () -> room("#######/@$----#/###-###/###-.-#/#######").longPush(8, 1));
        s.due("one push, not to a tunnel", 1, () -> room("@----/-$---/----./-----").longPush(6, 1));
        s.due("one push, to a cell with a way off on one side", 1, () -> room("######/@-$---/#-#-##/#---.#").longPush(8, 1));
        s.due("one push, off a tunnel", 1, () -> room("##---/@$---/##--./-----").longPush(6, 1));
        s.due("into a tunnel, and out of it", 4, () -> room("--###--/@$-----/--###-.").longPush(8, 1));
    }
}
