import java.util.concurrent.Callable;

/** Each promise of the document by hand: ordinary inputs, the edges that it names, and wrong inputs. */
public final class PromisesTest extends RoomTests {
    private static final Check CHECK = new Check();

    public static void main(String[] args) {
        newObject();
        feed();
        readRoomFaults();
        readRoomSizes();
        readRoomKeepsOrReplaces();
        cell();
        cells();
        frozenCells();
        count();
        distance();
        bound();
        stuck();
        goalRoom();
        step();
        push();
        ways();
        longPush();
        playTexts();
        playSteps();
        recordIsFull();
        recordIsFullForPushes();
        refusedAndRefusal();
        refuses();
        solve();
        solution();
        finish();
        recorded();
        isReplayed();
        undo();
        snapshots();
        keptThings();
        CHECK.end("PromisesTest");
    }

    private static void due(String what, Object want, Callable<?> call) {
        CHECK.due(what, want, call);
    }

    // ---- promise 1

    private static void newObject() {
        PusherRoom x = new PusherRoom();
        for (int what = 0; what <= 11; what++) {
            int w = what;
            due("1: count(" + w + ")", 0, () -> x.count(w));
        }
        due("1: cell", STATE, () -> x.cell(0, 0));
        due("1: cells", STATE, () -> x.cells(0));
        due("1: cells with wrong what", STATE, () -> x.cells(9));
        due("1: distance", STATE, () -> x.distance(0, -1));
        due("1: distance of a wrong cell", STATE, () -> x.distance(-1, -2));
        due("1: bound", STATE, x::bound);
        due("1: stuck", STATE, () -> x.stuck(false));
        due("1: stuck's detail", STATE, () -> x.stuck(true));
        due("1: goalRoom", STATE, () -> x.goalRoom(0, 0));
        due("1: step", STATE, () -> x.step(0));
        due("1: step of no direction", ARGUMENT, () -> x.step(-1));
        due("1: push", STATE, () -> x.push(0, 3));
        due("1: push of no direction", ARGUMENT, () -> x.push(0, 4));
        due("1: longPush", STATE, () -> x.longPush(0, 3));
        due("1: longPush of no direction", ARGUMENT, () -> x.longPush(0, -1));
        due("1: refuses", STATE, () -> x.refuses(0, 3));
        due("1: refuses of no direction", ARGUMENT, () -> x.refuses(0, 4));
        due("1: refused", ELEMENT, x::refused);
        due("1: refusal", ELEMENT, () -> x.refusal(false));
        due("1: refusal's detail", ELEMENT, () -> x.refusal(true));
        due("1: solve", STATE, () -> x.solve(1000, false));
        due("1: solve without a limit", ARGUMENT, () -> x.solve(0, false));
        due("1: solution", ELEMENT, () -> x.solution(-1, false));
        due("1: solution's positions", ELEMENT, () -> x.solution(-1, true));
        due("1: solution's first push", ELEMENT, () -> x.solution(0, true));
        due("1: finish", STATE, () -> x.finish(1));
        due("1: finish beyond the limits", ARGUMENT, () -> x.finish(1001));
        due("1: recorded", INDEX, () -> x.recorded(0));
        due("1: isReplayed", STATE, x::isReplayed);
        due("1: undo", STATE, x::undo);
        due("1: saveSnapshot", STATE, x::saveSnapshot);
        due("1: restoreSnapshot", STATE, x::restoreSnapshot);
        x.feed('u');
        due("1: play", STATE, x::play);
        due("14: the input is empty after play without a room", 0, () -> x.count(11));
        x.feed('?');
        due("1: play of no text", STATE, x::play);
        due("1: readRoom of no text", -100, x::readRoom);
    }

    // ---- promise 2

    private static void feed() {
        PusherRoom x = new PusherRoom();
        due("2: code 31", ARGUMENT, () -> x.feed((char) 31));
        due("2: code 127", ARGUMENT, () -> x.feed((char) 127));
        due("2: code 0", ARGUMENT, () -> x.feed((char) 0));
        due("2: code 65535", ARGUMENT, () -> x.feed((char) 65535));
        due("2: nothing was fed", 0, () -> x.count(11));
        due("2: code 32", 1, () -> x.feed((char) 32));
        due("2: code 126", 2, () -> x.feed((char) 126));
        for (int i = 3; i <= 80; i++) {
            due("2: character " + i, i, () -> x.feed('#'));
        }
        due("2: character 81", STATE, () -> x.feed('#'));
        due("2: character 81 of a wrong code", ARGUMENT, () -> x.feed((char) 31));
        due("2: 80 characters stay", 80, () -> x.count(11));
        due("2: the first one was code 32", -100, x::readRoom);
        due("2: a first one again", 1, () -> x.feed('#'));
    }

    // ---- promise 3

    private static void readRoomFaults() {
        fault("", 0);
        fault("/", 0);
        fault("x", 0);
        fault("#x", 1);
        fault("# ", 1);
        fault("#/", 2);
        fault("#//", 2);
        fault("##/#/##", 4);
        fault("##/###", 5);
        fault("##/##/#", 7);
        fault("##/##/", 6);
        fault("###/##", 6);
        fault("@@", 1);
        fault("@-/-+", 4);
        fault("+@", 1);
        fault("$$$$$$", 5);
        fault("$$*$**", 5);
        fault("$$$$$-/-*", 8);
        fault("@-$./0", 5);
        fault("@-$./----/---", 13);
        fault("@-$./----/----/", 15);
        fault("u", 0);
        fault("#########/########", 18);
        fault("#".repeat(80), -1);
        fault("-".repeat(64) + "$$$$$*", 69);
        fault("-".repeat(66) + "@-+", 68);
        fault("-".repeat(39) + "/" + "-".repeat(39) + "/", 80);
    }

    /** At -1 the text has no fault, and is no room that is played. */
    private static void fault(String text, int at) {
        PusherRoom x = new PusherRoom();
        type(x, text);
        due("3: " + text, at == -1 ? ARITHMETIC : -100 - at, x::readRoom);
        due("3: the input is empty after " + text, 0, () -> x.count(11));
        due("3: no room after " + text, STATE, () -> x.cells(0));
    }

    private static void readRoomSizes() {
        size("@$./---/---", 9);
        size("@$./---", ARITHMETIC);
        size("@$/-./--", ARITHMETIC);
        size("@", ARITHMETIC);
        size("###/@$./###", 3);
        size("@$.-----" + "/--------".repeat(7), 64);
        size("@$.----/" + "-------/".repeat(8) + "-------", ARITHMETIC);
        size("@$." + "/---".repeat(7), 24);
        size("@$." + "/---".repeat(8), ARITHMETIC);
        size("@$.-----/--------/-------#", 23);
        size("@$.------/---------/---------", ARITHMETIC);
        size("-$./---/---", ARITHMETIC);
        size("@-./---/---", ARITHMETIC);
        size("@$$/.--/---", ARITHMETIC);
        size("@$-/---/---", ARITHMETIC);
        size("@$-/$--/-..", 9);
        size("@*-/---/---", 9);
        size("+$-/---/---", 9);
        size("+$$/---/---", ARITHMETIC);
        size("@$$$$$/.....#/#-----", 16);
        size("@-*/***/---", 9);
    }

    private static void size(String text, Object want) {
        PusherRoom x = new PusherRoom();
        type(x, text);
        due("3: " + text, want, x::readRoom);
        due("3: the input is empty after " + text, 0, () -> x.count(11));
        due("3: the room of " + text, want instanceof Integer ? text : "", () -> picture(x));
    }

    private static void readRoomKeepsOrReplaces() {
        PusherRoom x = room(CORRIDOR);
        x.step(1);
        due("3: a fault", "-101", () -> read(x, "#x"));
        due("3: a wrong size", ARITHMETIC, () -> read(x, "@$."));
        due("3: the room stays", "#######/#-@$-.#/#######", () -> picture(x));
        due("3: the record stays", "r", () -> record(x));
        due("3: the command can be undone still", 1, () -> x.count(7));
        due("3: another room", "9", () -> read(x, SQUARE));
        due("3: the other room is there", SQUARE, () -> picture(x));
        due("3: no step was recorded", 0, () -> x.count(5));
        due("3: nothing can be undone", STATE, x::undo);
    }

    // ---- promise 4

    private static void cell() {
        PusherRoom x = room("+$-./#*--/----");
        due("4: player on goal", '+', () -> x.cell(0, 0));
        due("4: box", '$', () -> x.cell(0, 1));
        due("4: open", '-', () -> x.cell(0, 2));
        due("4: goal", '.', () -> x.cell(0, 3));
        due("4: wall", '#', () -> x.cell(1, 0));
        due("4: box on goal", '*', () -> x.cell(1, 1));
        due("4: row -1", INDEX, () -> x.cell(-1, 0));
        due("4: row 3", INDEX, () -> x.cell(3, 0));
        due("4: column -1", INDEX, () -> x.cell(1, -1));
        due("4: column 4", INDEX, () -> x.cell(0, 4));
        due("4: last cell", '-', () -> x.cell(2, 3));
        due("4: far away", INDEX, () -> x.cell(Integer.MAX_VALUE, Integer.MIN_VALUE));
        x.step(1);
        due("4: goal that was left", '.', () -> x.cell(0, 0));
        due("4: player", '@', () -> x.cell(0, 1));
    }

    // ---- promise 5

    private static void cells() {
        PusherRoom x = room(SQUARE);
        due("5: open", set(6, 7, 8, 11, 12, 13, 16, 17, 18), () -> x.cells(0));
        due("5: goals", set(13), () -> x.cells(1));
        due("5: boxes", set(12), () -> x.cells(2));
        due("5: area", set(6, 7, 8, 11, 13, 16, 17, 18), () -> x.cells(3));
        due("5: dead", set(6, 7, 8, 11, 16, 17, 18), () -> x.cells(4));
        due("5: frozen", set(), () -> x.cells(5));
        due("5: tunnels in their row", 0L, () -> x.cells(6));
        due("5: tunnels in their column", 0L, () -> x.cells(7));
        due("5: boxes on goals", 0L, () -> x.cells(8));
        due("5: what -1", ARGUMENT, () -> x.cells(-1));
        due("5: what 9", ARGUMENT, () -> x.cells(9));
        x.push(12, 1);
        due("5: boxes on goals after a push", set(13), () -> x.cells(8));
        due("5: the box now", set(13), () -> x.cells(2));
        PusherRoom y = room(CORRIDOR);
        due("5: area up to the box", set(8, 9), () -> y.cells(3));
        due("5: tunnels in their row without the goal", set(8, 9, 10, 11), () -> y.cells(6));
        due("5: no tunnels in their column", 0L, () -> y.cells(7));
        due("5: a box cannot leave the end", set(8), () -> y.cells(4));
        PusherRoom z = room("@#-#/-#$#/-#-#/-#.#");
        due("5: tunnels in their column, open at the edge", set(0, 4, 8, 12, 2, 6, 10), () -> z.cells(7));
        due("5: a tunnel in its row", 0L, () -> z.cells(6));
        PusherRoom w = room("#-------/--------/--------/--------/--------/--------/--$-----/@------.");
        due("5: all cells but one", -2L, () -> w.cells(0));
        due("5: cell 63 is a goal", Long.MIN_VALUE, () -> w.cells(1));
    }

    private static void frozenCells() {
        // Two boxes side by side at a wall hold one another; goals far off.
        PusherRoom x = room("-$$-@/-----/--..-/-----");
        due("5: frozen beside one another", set(1, 2), () -> x.cells(5));
        // Four boxes in a square, away from walls.
        PusherRoom y = room("@-----/--$$--/--$$--/------/-....-");
        due("5: frozen in a square", set(8, 9, 14, 15), () -> y.cells(5));
        // A chain that is held at one end alone: the last box is free in its row, and so are they all.
        PusherRoom z = room("@-----/-$$---/--$---/------/-...--");
        due("5: none is frozen", 0L, () -> z.cells(5));
        // Dead cells at both sides block a box along the wall, also with a box on one of them.
        PusherRoom w = room("#####/#@$-#/#-$.#/#--.#/#####");
        due("5: blocked between dead cells", set(7), () -> w.cells(5));
        PusherRoom v = room("#####/#-*$#/#@-.#/#--.#/#####");
        due("5: a frozen box in a corner, and one beside it", set(7, 8), () -> v.cells(5));
    }

    // ---- promise 6

    private static void count() {
        PusherRoom x = room("-$-@./-*#--/##---");
        due("6: rows", 3, () -> x.count(0));
        due("6: columns", 5, () -> x.count(1));
        due("6: boxes", 2, () -> x.count(2));
        due("6: goals", 2, () -> x.count(3));
        due("6: player", 3, () -> x.count(4));
        due("6: steps", 0, () -> x.count(5));
        due("6: pushes", 0, () -> x.count(6));
        due("6: commands", 0, () -> x.count(7));
        due("6: groups", 2, () -> x.count(8));
        due("6: goal rooms", 0, () -> x.count(9));
        due("6: solved", 0, () -> x.count(10));
        due("6: input", 0, () -> x.count(11));
        due("6: what -1", ARGUMENT, () -> x.count(-1));
        due("6: what 12", ARGUMENT, () -> x.count(12));
        x.step(3);
        x.step(3);
        x.feed('x');
        due("6: steps after two", 2, () -> x.count(5));
        due("6: pushes after one", 1, () -> x.count(6));
        due("6: commands after two", 2, () -> x.count(7));
        due("6: player after two", 1, () -> x.count(4));
        due("6: groups after a push", 2, () -> x.count(8));
        due("6: input after a character", 1, () -> x.count(11));
        PusherRoom y = room("@**/---/---");
        due("6: solved at once", 1, () -> y.count(10));
        due("6: wrong what without a room", ARGUMENT, () -> new PusherRoom().count(12));
        due("6: goal rooms there", 2, () -> room("########/#.-@$-.#/########").count(9));
        due("6: the player's cell is a group of its own", 4, () -> room("-$@$/$###/-#.-/-#..").count(8));
    }

    // ---- promise 7

    private static void distance() {
        PusherRoom x = room("########/#.-@$-.#/########");
        due("7: to the nearest", 2, () -> x.distance(12, -1));
        due("7: to the one at the left", 3, () -> x.distance(12, 9));
        due("7: to the one at the right", 2, () -> x.distance(12, 14));
        due("7: from a goal to itself", 0, () -> x.distance(9, 9));
        due("7: from a goal", 0, () -> x.distance(9, -1));
        due("7: no way out of the end", ELEMENT, () -> x.distance(9, 14));
        due("7: a wall", INDEX, () -> x.distance(8, -1));
        due("7: cell -1", INDEX, () -> x.distance(-1, -1));
        due("7: cell 24", INDEX, () -> x.distance(24, -1));
        due("7: cell 76 is not cell 12", INDEX, () -> x.distance(76, -1));
        due("7: goal -2", INDEX, () -> x.distance(12, -2));
        due("7: goal 10", INDEX, () -> x.distance(12, 10));
        due("7: goal 78 is not goal 14", INDEX, () -> x.distance(12, 78));
        due("7: dead", ELEMENT, () -> room(SQUARE).distance(8, -1));
        due("7: dead, and a wrong goal", INDEX, () -> room(SQUARE).distance(8, 8));
    }

    // ---- promise 8

    private static void bound() {
        due("8: one box", 2, () -> room(CORRIDOR).bound());
        due("8: two boxes", 3, () -> room("@-----/--$-$-/--..--/------").bound());
        due("8: no goal for two", ELEMENT, () -> room("#####/#@$-#/#-$.#/#--.#/#####").bound());
        due("8: solved", 0, () -> room("@**/---/---").bound());
        due("8: five boxes", 5, () -> room("@-------/-$$$$$--/-.....--/--------").bound());
        // The lower box must leave its nearest goal to the other one, which would need 4 to the far goal.
        due("8: not the nearest first", 3, () -> room("--------/@-------/-.-$.$--/--------").bound());
    }

    // ---- promise 9

    private static void stuck() {
        PusherRoom x = room(SQUARE);
        due("9: not stuck", 0, () -> x.stuck(false));
        due("9: no detail", STATE, () -> x.stuck(true));
        x.push(12, 0);
        due("9: on a dead cell", 1, () -> x.stuck(false));
        due("9: the dead cell", 7, () -> x.stuck(true));
        PusherRoom y = room("@-----/-----./-$$--./-$$--./-----./------");
        due("9: frozen", 2, () -> y.stuck(false));
        due("9: the lowest frozen box", 13, () -> y.stuck(true));
        PusherRoom z = room("@-----/-..---/-*$---/-**---/-----./------");
        due("9: frozen, some on goals", 2, () -> z.stuck(false));
        due("9: the frozen box off the goals", 14, () -> z.stuck(true));
        PusherRoom w = room("@-----/-**---/-**---/------");
        due("9: frozen on goals", 0, () -> w.stuck(false));
        due("9: frozen on goals, no detail", STATE, () -> w.stuck(true));
        PusherRoom v = room("------$/@-----$/...----/-----$-/-------");
        due("9: two on dead cells", 1, () -> v.stuck(false));
        due("9: the lower one", 6, () -> v.stuck(true));
    }

    // ---- promise 10

    private static void goalRoom() {
        PusherRoom x = room("#######/#@$--.#/##-##.#/##-##.#/#######");
        due("10: entrance", 11, () -> x.goalRoom(0, -1));
        due("10: number of goals", 3, () -> x.goalRoom(0, -2));
        due("10: farthest first", 26, () -> x.goalRoom(0, 0));
        due("10: then nearer", 19, () -> x.goalRoom(0, 1));
        due("10: nearest last", 12, () -> x.goalRoom(0, 2));
        due("10: no place 3", ELEMENT, () -> x.goalRoom(0, 3));
        due("10: no place -3", ELEMENT, () -> x.goalRoom(0, -3));
        due("10: no room 1", ELEMENT, () -> x.goalRoom(1, -1));
        due("10: no room -1", ELEMENT, () -> x.goalRoom(-1, -1));
        PusherRoom y = room("#######/#@$-..#/####..#");
        due("10: same number of steps, lower cell first", "19 12 18 11",
                () -> y.goalRoom(0, 0) + " " + y.goalRoom(0, 1) + " " + y.goalRoom(0, 2) + " " + y.goalRoom(0, 3));
        PusherRoom z = room("########/#.-@$-.#/########");
        due("10: two rooms", 2, () -> z.count(9));
        due("10: room 0", 10, () -> z.goalRoom(0, -1));
        due("10: room 1", 13, () -> z.goalRoom(1, -1));
        due("10: two entrances are too many", 0, () -> room(SQUARE).count(9));
        due("10: no entrance is too few", 0, () -> room(".#@--/##$--/-----/-.---").count(9));
        PusherRoom w = room("..$@/-###/-###");
        due("10: one entrance beside each end is two", 0, () -> w.count(9));
        // The goals 1 and 2 have the one entrance 3, with a box on it; boxes do not matter.
        PusherRoom v = room("#..$@/####-/#####");
        due("10: a box on the entrance", 3, () -> v.goalRoom(0, -1));
        PusherRoom t = room("########/#...-@-#/#####-##/#####$##/#####-##/#####.##/########");
        due("10: a long room", "12 9 10 11",
                () -> t.goalRoom(0, -1) + " " + t.goalRoom(0, 0) + " " + t.goalRoom(0, 1) + " " + t.goalRoom(0, 2));
        due("10: a short room after it", "37 45", () -> t.goalRoom(1, -1) + " " + t.goalRoom(1, 0));
        PusherRoom s = room(".-$@--/######/######");
        due("10: cell 0 alone", "1 1 0", () -> s.count(9) + " " + s.goalRoom(0, -1) + " " + s.goalRoom(0, 0));
        // One open cell beside two goals of the set counts once.
        PusherRoom u = room("@$-./##../####");
        due("10: one cell beside two goals", "2 7 3 6",
                () -> u.goalRoom(0, -1) + " " + u.goalRoom(0, 0) + " " + u.goalRoom(0, 1) + " " + u.goalRoom(0, 2));
    }

    // ---- promise 11

    private static void step() {
        PusherRoom x = room("-----/-$$@-/-$---/..--./-----");
        due("11: direction -1", ARGUMENT, () -> x.step(-1));
        due("11: direction 4", ARGUMENT, () -> x.step(4));
        due("11: onto another box", REFUSED, () -> x.step(3));
        due("11: reason 3", 3, () -> x.refusal(false));
        due("11: detail of reason 3", 6, () -> x.refusal(true));
        due("11: up", 0, () -> x.step(0));
        due("11: beyond the edge", REFUSED, () -> x.step(0));
        due("11: reason 1", 1, () -> x.refusal(false));
        due("11: detail of reason 1", 3, () -> x.refusal(true));
        due("11: left", 0, () -> x.step(3));
        due("11: down, a push", 1, () -> x.step(2));
        due("11: the box was pushed", "-----/-$@--/-$$--/..--./-----", () -> picture(x));
        due("11: left, a push", 1, () -> x.step(3));
        due("11: box into the wall", REFUSED, () -> x.step(3));
        due("11: reason 2", 2, () -> x.refusal(false));
        due("11: detail of reason 2", 5, () -> x.refusal(true));
        due("11: refused steps leave all as it is", "-----/$@---/-$$--/..--./-----", () -> picture(x));
        due("11: the record", "ulDL", () -> record(x));
        due("11: right", 0, () -> x.step(1));
        due("11: the way back", "-----/$-@--/-$$--/..--./-----", () -> picture(x));
        due("11: refused of a text still has nothing", ELEMENT, x::refused);
    }

    // ---- promise 12

    private static void push() {
        PusherRoom x = room(SQUARE);
        due("12: direction -1", ARGUMENT, () -> x.push(12, -1));
        due("12: direction 4", ARGUMENT, () -> x.push(12, 4));
        due("12: no box there", INDEX, () -> x.push(13, 0));
        due("12: cell -1", INDEX, () -> x.push(-1, 0));
        due("12: cell 76 is not cell 12", INDEX, () -> x.push(76, 0));
        due("12: wrong direction and cell", ARGUMENT, () -> x.push(-1, 9));
        due("12: with a walk", 2, () -> x.push(12, 2));
        due("12: the room", "#####/#---#/#-@.#/#-$-#/#####", () -> picture(x));
        due("12: the record", "rD", () -> record(x));
        due("12: into the wall", REFUSED, () -> x.push(17, 2));
        due("12: reason 2", 2, () -> x.refusal(false));
        due("12: detail of reason 2", 17, () -> x.refusal(true));
        due("12: from the wall", REFUSED, () -> x.push(17, 0));
        due("12: reason 4", 4, () -> x.refusal(false));
        due("12: detail of reason 4", 17, () -> x.refusal(true));
        due("12: one command", 1, () -> x.count(7));
        PusherRoom y = room("------/@$$---/------/-..---");
        due("12: onto another box", REFUSED, () -> y.push(7, 1));
        due("12: reason 3", 3, () -> y.refusal(false));
        due("12: detail of reason 3", 8, () -> y.refusal(true));
        due("12: from another box", REFUSED, () -> y.push(7, 3));
        due("12: reason 4 for a box behind", 4, () -> y.refusal(false));
        due("12: refused pushes leave all as it is", "------/@$$---/------/-..---", () -> picture(y));
        due("12: refused pushes are no commands", 0, () -> y.count(7));
        PusherRoom z = room(CORRIDOR);
        due("12: out of reach, ahead of the wall", REFUSED, () -> z.push(10, 3));
        due("12: reason 4 out of reach", 4, () -> z.refusal(false));
        z.step(1);
        due("12: there already", 1, () -> z.push(10, 1));
        due("12: a step and a push", "rR", () -> record(z));
    }

    /** Of the shortest ways the one whose directions come first as numbers. */
    private static void ways() {
        PusherRoom x = room("@----/-----/--$--/-----/----.");
        due("12: right before down", 4, () -> x.push(12, 1));
        due("12: the way right before down", "rddR", () -> record(x));
        PusherRoom y = room("-----/-----/--$--/-----/.---@");
        due("12: up before left", 4, () -> y.push(12, 3));
        due("12: the way up before left", "uulL", () -> record(y));
        PusherRoom z = room("@----/-----/--$--/-----/.----");
        due("12: around", 6, () -> z.push(12, 3));
        due("12: around at the right", "rrrddL", () -> record(z));
        PusherRoom w = room("----./-----/--$--/-----/@----");
        due("12: up before right", 4, () -> w.push(12, 0));
        due("12: the way up before right", "urrU", () -> record(w));
    }

    // ---- promise 13

    private static void longPush() {
        PusherRoom x = room(LONG_WALK);
        due("13: direction 4", ARGUMENT, () -> x.longPush(18, 4));
        due("13: no box", INDEX, () -> x.longPush(17, 1));
        due("13: refused", REFUSED, () -> x.longPush(18, 0));
        due("13: reason", 4, () -> x.refusal(false));
        due("13: detail", 18, () -> x.refusal(true));
        due("13: up to the goal", 4, () -> x.longPush(18, 1));
        due("13: the room", "--------/-#######/-----@*#", () -> picture(x));
        due("13: the record", "ddrRRRR", () -> record(x));
        due("13: one command", 0, x::undo);
        due("13: all of it is undone", LONG_WALK, () -> picture(x));
        PusherRoom y = room("#######/@$---$#/#####.#/#####.#");
        due("13: up to another box", 3, () -> y.longPush(8, 1));
        due("13: where it stopped", "#######/---@$$#/#####.#/#####.#", () -> picture(y));
        due("13: nothing was refused", ELEMENT, () -> y.refusal(false));
        PusherRoom z = room("#######/@$----#/###-###/###-.-#/#######");
        due("13: up to a crossing", 2, () -> z.longPush(8, 1));
        due("13: the crossing", 10, () -> Long.numberOfTrailingZeros(z.cells(2)));
        PusherRoom w = room("#@#/#$#/#-#/#-#/#.#");
        due("13: down", 3, () -> w.longPush(4, 2));
        PusherRoom v = room("@----/-$---/----./-----");
        due("13: no tunnel", 1, () -> v.longPush(6, 1));
        PusherRoom u = room("######/@-$---/#-#-##/#---.#");
        due("13: a way off on one side is enough", 1, () -> u.longPush(8, 1));
    }

    // ---- promise 14

    private static void playTexts() {
        PusherRoom x = room(SQUARE);
        String[] texts = {"", "0u", "5", "u9", "99", "999u", "100u", "u0r", "x", "ru ", "u u", "ru12", "UU1", "9a", "1/"};
        int[] faults = {0, 0, 1, 2, 2, 2, 2, 1, 0, 2, 1, 4, 3, 1, 1};
        for (int i = 0; i < texts.length; i++) {
            String text = texts[i];
            int at = faults[i];
            due("14: text " + text, "" + (-100 - at), () -> play(x, text));
            due("14: the input is empty after " + text, 0, () -> x.count(11));
        }
        due("14: 100u is at fault at its third digit", "-102", () -> play(x, "100u"));
        due("14: no command", 0, () -> x.count(7));
        due("14: no step", SQUARE, () -> picture(x));
        due("14: nothing was refused", ELEMENT, () -> x.refusal(false));
    }

    private static void playSteps() {
        PusherRoom x = room(SQUARE);
        due("14: a text", "5", () -> play(x, "2r2l1d"));
        due("14: its record", "rrlld", () -> record(x));
        due("14: one command", 1, () -> x.count(7));
        due("14: a push", "1", () -> play(x, "R"));
        due("14: its room", "#####/#---#/#-@*#/#---#/#####", () -> picture(x));
        due("14: into the wall", REFUSED, () -> play(x, "lr2u"));
        due("14: step 3 was refused", 3, x::refused);
        due("14: reason 1", 1, () -> x.refusal(false));
        due("14: detail of reason 1", 7, () -> x.refusal(true));
        due("14: none of its steps is made", "#####/#---#/#-@*#/#---#/#####", () -> picture(x));
        due("14: the input is empty after a refusal", 0, () -> x.count(11));
        due("14: the record stays", "rrlldR", () -> record(x));
        due("14: a small letter into a box at a wall", REFUSED, () -> play(x, "r"));
        due("14: reason 2 goes before 5", 2, () -> x.refusal(false));
        due("14: detail of reason 2", 13, () -> x.refusal(true));
        due("14: step 0 was refused", 0, x::refused);
        due("14: a capital letter without a box", REFUSED, () -> play(x, "uL"));
        due("14: reason 6", 6, () -> x.refusal(false));
        due("14: detail of reason 6", 7, () -> x.refusal(true));
        due("14: a capital letter into a wall", REFUSED, () -> play(x, "3U"));
        due("14: reason 6 for the first", 6, () -> x.refusal(false));
        due("14: a capital letter at a wall", REFUSED, () -> play(x, "uU"));
        due("14: reason 1 goes before 6", 1, () -> x.refusal(false));
        due("14: a small letter onto the goal's box", REFUSED, () -> play(x, "urd"));
        due("14: it would push", "2 5 8", () -> x.refused() + " " + x.refusal(false) + " " + x.refusal(true));
        PusherRoom y = room("-----/-$@--/-$---/..--./-----");
        due("14: a small letter that would push", REFUSED, () -> play(y, "dl"));
        due("14: reason 5", 5, () -> y.refusal(false));
        due("14: detail of reason 5", 12, () -> y.refusal(true));
        due("14: step 1 was refused", 1, y::refused);
        due("14: pushes by a number", REFUSED, () -> play(y, "2L"));
        due("14: the second one fails", "1 2 5", () -> y.refused() + " " + y.refusal(false) + " " + y.refusal(true));
        PusherRoom z = room("-----/@$$--/-----/--..-");
        due("14: onto another box", REFUSED, () -> play(z, "udr"));
        due("14: reason 3 goes before 5", "2 3 7", () -> z.refused() + " " + z.refusal(false) + " " + z.refusal(true));
        PusherRoom w = room("--------/@$------/--------/-------.");
        due("14: a number of pushes", "6", () -> play(w, "6R"));
        due("14: the pushes are counted", 6, () -> w.count(6));
        due("14: two digits", REFUSED, () -> play(w, "99l"));
        due("14: the number among all steps", 6, w::refused);
    }

    private static void recordIsFull() {
        PusherRoom x = room(LONG_WALK);
        due("14: 280 steps", "280", () -> play(x, "7r7l".repeat(20)));
        due("14: 112 steps", "112", () -> play(x, "7r7l".repeat(8)));
        due("14: 9 steps are too many", ARITHMETIC, () -> play(x, "4r4lr"));
        due("14: 392 steps stay", 392, () -> x.count(5));
        due("14: the room stays", LONG_WALK, () -> picture(x));
        due("14: the input is empty then", 0, () -> x.count(11));
        due("14: two commands", 2, () -> x.count(7));
        due("14: a refused step behind too many", REFUSED, () -> play(x, "4r4l4r4lu"));
        due("14: its number", 16, x::refused);
        due("14: 8 steps fit", "8", () -> play(x, "4r4l"));
        due("11: 400 steps", STATE, () -> x.step(1));
        due("11: 400 steps, before a refusal", STATE, () -> x.step(0));
        due("11: 400 steps, behind a wrong direction", ARGUMENT, () -> x.step(7));
        due("14: 1 step is too many", ARITHMETIC, () -> play(x, "r"));
        due("14: a fault goes first", "-101", () -> play(x, "rx"));
        due("12: a push is too many", ARITHMETIC, () -> x.push(18, 1));
        due("12: a refusal goes first", REFUSED, () -> x.push(18, 3));
        due("13: a long push is too many", ARITHMETIC, () -> x.longPush(18, 1));
        due("20: finish is too long", ARITHMETIC, () -> x.finish(1000));
        due("20: its solution is kept all the same", 4, () -> x.solution(-1, false));
        due("20: the room stays", LONG_WALK, () -> picture(x));
        due("21: step 399", 'l', () -> x.recorded(399));
        due("21: step 400", INDEX, () -> x.recorded(400));
        due("22: all of it is replayed", true, x::isReplayed);
        due("23: undone", 2, x::undo);
        due("11: a step fits again", 0, () -> x.step(2));
        due("11: its place in the record", 'd', () -> x.recorded(392));
    }

    private static void recordIsFullForPushes() {
        PusherRoom x = room(LONG_WALK);
        play(x, "7r7l".repeat(20));
        play(x, "7r7l".repeat(8) + "2r2l");
        due("13: 396 and 7 are too many", ARITHMETIC, () -> x.longPush(18, 1));
        due("13: 396 steps stay", 396, () -> x.count(5));
        due("13: the room stays", LONG_WALK, () -> picture(x));
        due("13: no command was added", 2, () -> x.count(7));
        due("20: 396 and 7 are too many", ARITHMETIC, () -> x.finish(1000));
        due("12: 396 and 4 fit", 4, () -> x.push(18, 1));
        due("12: 400 steps", 400, () -> x.count(5));
        due("12: 400 and 1 are too many", ARITHMETIC, () -> x.push(19, 1));
        due("23: undone", 2, x::undo);
        due("23: undone to 280", 1, x::undo);
        play(x, "7r7l".repeat(8));
        due("20: 392 and 7 fit", 7, () -> x.finish(1000));
        due("20: 399 steps", 399, () -> x.count(5));
        due("11: step 400", 0, () -> x.step(3));
        due("20: no steps fit still", 0, () -> x.finish(1));
        due("20: the record is full, and has 280, 112, 7 and 1", 400, () -> x.count(5));
    }

    // ---- promises 15 to 17

    private static void refusedAndRefusal() {
        PusherRoom x = room(CORRIDOR);
        x.step(1);
        due("15: nothing yet", ELEMENT, x::refused);
        due("16: nothing yet", ELEMENT, () -> x.refusal(false));
        due("16: no detail yet", ELEMENT, () -> x.refusal(true));
        due("15: a step is refused", REFUSED, () -> x.step(0));
        due("15: but no step of a text", ELEMENT, x::refused);
        due("16: reason of the step", 1, () -> x.refusal(false));
        due("16: detail of the step", 9, () -> x.refusal(true));
        due("15: a text", REFUSED, () -> play(x, "lr3R"));
        due("15: its number", 4, x::refused);
        due("16: its reason", 2, () -> x.refusal(false));
        due("16: its detail", 12, () -> x.refusal(true));
        due("15: a push is refused", REFUSED, () -> x.push(10, 3));
        due("15: the number stays", 4, x::refused);
        due("16: reason of the push", 4, () -> x.refusal(false));
        due("15: a text goes", "1", () -> play(x, "l"));
        due("15: the number stays after it", 4, x::refused);
        due("16: the reason stays after it", 4, () -> x.refusal(false));
        due("15: the first step of a text", REFUSED, () -> play(x, "l"));
        due("15: its number 0", 0, x::refused);
    }

    private static void refuses() {
        PusherRoom x = room("------/@$$---/------/-..---");
        due("17: onto another box", 3, () -> x.refuses(7, 1));
        due("17: from another box", 4, () -> x.refuses(7, 3));
        due("17: up", 0, () -> x.refuses(7, 0));
        due("17: left, onto another box", 3, () -> x.refuses(8, 3));
        due("17: direction 4", ARGUMENT, () -> x.refuses(7, 4));
        due("17: direction -1", ARGUMENT, () -> x.refuses(0, -1));
        due("17: no box", INDEX, () -> x.refuses(6, 0));
        due("17: cell 71 is not cell 7", INDEX, () -> x.refuses(71, 0));
        due("17: cell -57 is not cell 7", INDEX, () -> x.refuses(-57, 0));
        due("17: nothing is kept", ELEMENT, () -> x.refusal(false));
        PusherRoom y = room("$-----/@-----/--.---");
        due("17: into the wall", 2, () -> y.refuses(0, 0));
        due("17: from beyond the edge", 4, () -> y.refuses(0, 2));
        due("17: from beyond the edge, into the wall", 2, () -> y.refuses(0, 3));
    }

    // ---- promises 18 and 19

    private static void solve() {
        PusherRoom x = room(SQUARE);
        due("18: limit 0", ARGUMENT, () -> x.solve(0, true));
        due("18: limit 1001", ARGUMENT, () -> x.solve(1001, true));
        due("18: limit -1", ARGUMENT, () -> x.solve(-1, false));
        due("18: gives up with tables", ARITHMETIC, () -> x.solve(1, true));
        due("18: nothing is kept", ELEMENT, () -> x.solution(-1, false));
        due("18: with tables", 1, () -> x.solve(2, true));
        due("18: positions with tables", 2, () -> x.solution(-1, true));
        due("18: gives up without tables", ARITHMETIC, () -> x.solve(6, false));
        due("18: the earlier one is kept", 2, () -> x.solution(-1, true));
        due("18: without tables", 1, () -> x.solve(7, false));
        due("18: positions without tables", 7, () -> x.solution(-1, true));
        due("18: no command", 0, () -> x.count(7));
        due("18: the room stays", SQUARE, () -> picture(x));
        PusherRoom y = room("@**/---/---");
        due("18: solved", 0, () -> y.solve(1, false));
        due("18: one position", 1, () -> y.solution(-1, true));
        // The box is in a corner: stuck, and no push is possible.
        PusherRoom z = room("$--/-@-/-.-");
        due("18: no solution", ELEMENT, () -> z.solve(1, true));
        due("18: no solution without tables", ELEMENT, () -> z.solve(1, false));
        // The box is on a dead cell and can be moved: the first position counts, those behind it do not.
        PusherRoom w = room("-$-/-@-/-.-");
        due("18: stuck at first", ELEMENT, () -> w.solve(1, true));
        due("18: stuck at first, without tables", ARITHMETIC, () -> w.solve(1, false));
        PusherRoom v = room("@-------/--------/--$-$---/---$----/--$-----/--------/-----.../.-------");
        due("18: gives up at 1000", ARITHMETIC, () -> v.solve(1000, false));
    }

    private static void solution() {
        PusherRoom x = room(CORRIDOR);
        due("18: two pushes", 2, () -> x.solve(3, false));
        due("18: three positions are needed", ARITHMETIC, () -> x.solve(2, false));
        due("19: number of pushes", 2, () -> x.solution(-1, false));
        due("19: number of positions", 3, () -> x.solution(-1, true));
        due("19: first cell", 10, () -> x.solution(0, false));
        due("19: first direction", 1, () -> x.solution(0, true));
        due("19: second cell", 11, () -> x.solution(1, false));
        due("19: second direction", 1, () -> x.solution(1, true));
        due("19: no third", ELEMENT, () -> x.solution(2, false));
        due("19: no push -2", ELEMENT, () -> x.solution(-2, true));
        // Boxes in ascending order, then directions: the first way that is found wins.
        PusherRoom y = room("------/@-$---/------/---.--");
        due("19: two or three pushes", 3, () -> y.solve(1000, true));
        due("19: the first push", "8 1", () -> y.solution(0, false) + " " + y.solution(0, true));
        due("19: the second push", "9 2", () -> y.solution(1, false) + " " + y.solution(1, true));
        due("19: the third push", "15 2", () -> y.solution(2, false) + " " + y.solution(2, true));
        PusherRoom z = room("@**/---/---");
        z.solve(5, true);
        due("19: no push in a solution of none", ELEMENT, () -> z.solution(0, false));
        due("19: none", 0, () -> z.solution(-1, false));
    }

    // ---- promise 20

    private static void finish() {
        PusherRoom x = room(CORRIDOR);
        due("20: limit 0", ARGUMENT, () -> x.finish(0));
        due("20: limit 1001", ARGUMENT, () -> x.finish(1001));
        due("20: gives up", ARITHMETIC, () -> x.finish(2));
        due("20: finishes", 3, () -> x.finish(3));
        due("20: the room", "#######/#---@*#/#######", () -> picture(x));
        due("20: the record", "rRR", () -> record(x));
        due("20: the solution", 3, () -> x.solution(-1, true));
        due("20: nothing to do", 0, () -> x.finish(1));
        due("20: two commands", 2, () -> x.count(7));
        due("20: nothing is undone", 1, x::undo);
        due("20: still solved", 1, () -> x.count(10));
        due("20: all is undone", 0, x::undo);
        due("20: as it was", CORRIDOR, () -> picture(x));
        due("20: no solution", ELEMENT, () -> room("$--/-@-/-.-").finish(1000));
        // With tables: two positions are enough here, as the solution says.
        PusherRoom y = room(SQUARE);
        due("20: with tables", 2, () -> y.finish(2));
        due("20: down and a push", "dR", () -> record(y));
    }

    // ---- promises 21 and 22

    private static void recorded() {
        PusherRoom x = room("-----/-----/--$@-/-----/.----");
        play(x, "uldD");
        due("21: a text that is refused", 0, () -> x.count(5));
        play(x, "ulD");
        StringBuilder letters = new StringBuilder();
        for (int i = 0; i < x.count(5); i++) {
            letters.append(x.recorded(i));
        }
        due("21: letters", "ulD", () -> letters.toString());
        x.step(1);
        x.step(2);
        x.step(3);
        due("21: a push by step", 'L', () -> x.recorded(5));
        due("21: step -1", INDEX, () -> x.recorded(-1));
        due("21: step 6", INDEX, () -> x.recorded(6));
        x.step(3);
        x.step(2);
        due("21: last", 'd', () -> x.recorded(7));
        x.undo();
        due("21: what was undone is not recorded", INDEX, () -> x.recorded(7));
    }

    private static void isReplayed() {
        PusherRoom x = room(SQUARE);
        due("22: at first", true, x::isReplayed);
        x.push(12, 0);
        x.push(7, 1);
        String before = picture(x) + record(x) + x.count(7);
        due("22: after pushes", true, x::isReplayed);
        due("22: the state stays", before, () -> picture(x) + record(x) + x.count(7));
        x.undo();
        due("22: after undo", true, x::isReplayed);
        x.saveSnapshot();
        read(x, CORRIDOR);
        x.step(1);
        due("22: in another room", true, x::isReplayed);
        x.restoreSnapshot();
        due("22: after a snapshot, from the room that was read then", true, x::isReplayed);
    }

    // ---- promise 23

    private static void undo() {
        PusherRoom x = room("------/-@$---/------/------/-.----");
        due("23: nothing yet", STATE, x::undo);
        int[] directions = {1, 1, 0, 1, 2, 2, 3, 2, 1, 0};
        String[] pictures = new String[10];
        for (int i = 0; i < 10; i++) {
            pictures[i] = picture(x);
            x.step(directions[i]);
        }
        due("23: ten commands", "RRurDDldRu", () -> record(x));
        due("23: 8 of 10 commands", 8, () -> x.count(7));
        for (int i = 9; i >= 2; i--) {
            int left = i - 2;
            due("23: undo, " + left + " are left", left, x::undo);
            String want = pictures[i];
            due("23: the room before command " + i, want, () -> picture(x));
            due("23: the record before command " + i, left + 2, () -> x.count(5));
        }
        due("23: none is left", STATE, x::undo);
        due("23: the record of the first two", "RR", () -> record(x));
        due("23: their pushes", 2, () -> x.count(6));
        PusherRoom y = room(CORRIDOR);
        y.step(1);
        y.step(1);
        due("23: a push is undone", 1, y::undo);
        due("23: the box is back", "#######/#-@$-.#/#######", () -> picture(y));
        due("23: no push", 0, () -> y.count(6));
        due("23: a refused one is no command", REFUSED, () -> y.step(0));
        due("23: one is left still", 1, () -> y.count(7));
        due("23: the input is not undone", "1 0 1", () -> y.feed('x') + " " + y.undo() + " " + y.count(11));
    }

    // ---- promises 24 and 25

    private static void snapshots() {
        PusherRoom x = room(CORRIDOR);
        due("25: nothing was saved", STATE, x::restoreSnapshot);
        x.step(1);
        x.step(1);
        due("24: two steps", 2, x::saveSnapshot);
        due("24: commands can be undone as before", 2, () -> x.count(7));
        due("24: and are", 1, x::undo);
        x.step(3);
        due("25: two steps", 2, x::restoreSnapshot);
        due("25: the room", "#######/#--@$.#/#######", () -> picture(x));
        due("25: the record", "rR", () -> record(x));
        due("25: no commands", 0, () -> x.count(7));
        due("25: no undo", STATE, x::undo);
        x.step(1);
        due("25: it is kept", 2, x::restoreSnapshot);
        due("25: the same room again", "#######/#--@$.#/#######", () -> picture(x));
        read(x, SQUARE);
        x.push(12, 0);
        x.feed('x');
        due("25: the room of the snapshot in place of another", 2, x::restoreSnapshot);
        due("25: with its size", "3 7 #######/#--@$.#/#######", () -> x.count(0) + " " + x.count(1) + " " + picture(x));
        due("25: with its tables", set(8), () -> x.cells(4));
        due("25: the input stays", 1, () -> x.count(11));
        due("25: it can be solved", 1, () -> x.finish(1000));
        due("24: in place of the earlier one", 3, x::saveSnapshot);
        read(x, SQUARE);
        due("25: the later one", 3, x::restoreSnapshot);
        due("25: the later room", "#######/#---@*#/#######", () -> picture(x));
    }

    /** What is kept of refusals, refused steps and solutions stays. */
    private static void keptThings() {
        PusherRoom x = room(CORRIDOR);
        x.saveSnapshot();
        play(x, "lu");
        x.solve(1000, true);
        String kept = "0 1 8 2 3 10";
        due("kept at first", kept, () -> kept(x));
        x.step(1);
        x.undo();
        due("kept when a command is undone", kept, () -> kept(x));
        x.restoreSnapshot();
        due("kept when a snapshot is restored", kept, () -> kept(x));
        read(x, SQUARE);
        due("kept when a room is read", kept, () -> kept(x));
        play(x, "x");
        x.refuses(12, 0);
        due("kept when nothing is refused", kept, () -> kept(x));
    }

    private static String kept(PusherRoom x) {
        return x.refused() + " " + x.refusal(false) + " " + x.refusal(true) + " "
                + x.solution(-1, false) + " " + x.solution(-1, true) + " " + x.solution(0, false);
    }
}
