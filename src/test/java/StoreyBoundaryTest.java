/** The sentences of the document that name a boundary case of the storey: promises 1 to 7 and the terms for them. */
public final class StoreyBoundaryTest {
    private static final int NONE = EscapeCells.NONE;
    private static final int[] NO_RATES = {0, 6, -1, Integer.MIN_VALUE, Integer.MAX_VALUE};
    private static final Check check = new Check("StoreyBoundaryTest");

    private interface CellCall {
        void make(EscapeCells storey, int x, int y);
    }

    private static final String[] CELL_CALL_NAMES = {
        "wall true", "wall false", "exit", "door", "smoke", "person", "walk", "through"};
    private static final CellCall[] CELL_CALLS = {
        (s, x, y) -> s.wall(x, y, true), (s, x, y) -> s.wall(x, y, false), (s, x, y) -> s.exit(x, y, 1),
        (s, x, y) -> s.door(x, y, 1), (s, x, y) -> s.smoke(x, y, 0), (s, x, y) -> s.person(x, y, 1, 0),
        (s, x, y) -> s.walk(x, y, NONE), (s, x, y) -> s.through(x, y)};

    public static void main(String[] args) {
        terms();
        newObject();
        wall();
        exit();
        door();
        smoke();
        person();
        habit();
        check.finish();
    }

    private static void terms() {
        check.sentence("An object is used for at most 512 calls after it has been made",
            StoreyBoundaryTest::lastOf512Calls);
        check.sentence("The constants: `NONE = -1`: There is none.", () -> check.same("NONE", NONE, -1));
        check.sentence("CELLS are (x, y), 0 .. width - 1 and 0 .. height - 1", () -> {
            cellsOf(2, 2);
            cellsOf(2, 24);
            cellsOf(24, 2);
            cellsOf(4, 7);
            cellsOf(24, 24);
        });
        check.sentence("Beside a cell are the four cells with one number of the two 1 greater or less.",
            StoreyBoundaryTest::besideAtTheEdges);
        check.sentence("PERSONS are 0, 1, .. as they come, 60 at most", StoreyBoundaryTest::sixtyPersons);
        check.sentence("each in a cell that no other one is in", () -> {
            EscapeCells x = new EscapeCells(2, 2);
            for (int i = 0; i < 4; i++) {
                check.same("person " + i, x.person(i % 2, i / 2, 1, 0), i);
            }
            for (int i = 0; i < 4; i++) {
                int cell = i;
                check.illegalState("a full storey, cell " + i, () -> x.person(cell % 2, cell / 2, 1, 0));
            }
        });
    }

    /** The walls of a maze, exits, persons, runs: each of the 512 calls counts, and the last is right, too. */
    private static void lastOf512Calls() {
        EscapeCells x = new EscapeCells(24, 24);
        int calls = 0;
        for (int i = 1; i < 24; i++) {
            x.wall(i, 1, true);
            calls++;
        }
        x.exit(23, 0, 1);
        x.person(23, 23, 1, 0);
        calls += 2;
        for (; calls < 511; calls++) {
            x.smoke(5, 5, calls % 2 == 0 ? NONE : 3600);
        }
        // 23 steps left and 22 up to row 1, 1 more to row 0, and 23 to the right.
        check.same("run as the 512th call", x.run(), 69);
    }

    private static void cellsOf(int width, int height) {
        for (int call = 0; call < CELL_CALLS.length; call++) {
            String name = CELL_CALL_NAMES[call] + " in " + width + " x " + height;
            CellCall asked = CELL_CALLS[call];
            for (int corner = 0; corner < 4; corner++) {
                int x = corner % 2 == 0 ? 0 : width - 1;
                int y = corner / 2 == 0 ? 0 : height - 1;
                EscapeCells storey = afterRun(width, height);
                check.throwsNothing(name + ": corner " + x + ", " + y, () -> asked.make(storey, x, y));
            }
            EscapeCells storey = afterRun(width, height);
            for (int x : Storeys.outside(0, width - 1)) {
                check.illegalArgument(name + ": x " + x, () -> asked.make(storey, x, 0));
                check.illegalArgument(name + ": x " + x + " in row 1", () -> asked.make(storey, x, 1));
                check.illegalArgument(name + ": both " + x, () -> asked.make(storey, x, x));
            }
            for (int y : Storeys.outside(0, height - 1)) {
                check.illegalArgument(name + ": y " + y, () -> asked.make(storey, 0, y));
                check.illegalArgument(name + ": y " + y + " in column 1", () -> asked.make(storey, 1, y));
            }
            // So far down that 32 bits would wrap around to a row of the storey.
            for (int shift = 26; shift < 32; shift++) {
                int y = 1 << shift;
                check.illegalArgument(name + ": y " + y, () -> asked.make(storey, 0, y));
            }
        }
    }

    private static EscapeCells afterRun(int width, int height) {
        EscapeCells storey = new EscapeCells(width, height);
        storey.run();
        return storey;
    }

    private static void besideAtTheEdges() {
        for (int width = 2; width <= 4; width++) {
            EscapeCells x = new EscapeCells(width, 3);
            int end = width - 1;
            x.exit(end, 0, 1);
            x.wall(end - 1, 0, true);
            x.wall(end, 1, true);
            check.same("an exit shut up in a corner: the next row's first cell is not beside it", x.ways(), 1);
            check.same("nor is the cell across the corner", x.walk(end - 1, 1, NONE), NONE);
        }
        for (int corner = 0; corner < 4; corner++) {
            EscapeCells x = new EscapeCells(5, 5);
            int right = corner % 2 * 4;
            int down = corner / 2 * 4;
            x.exit(right, down, 1);
            check.same("the other end of the row", x.walk(4 - right, down, NONE), 4);
            check.same("the other end of the column", x.walk(right, 4 - down, NONE), 4);
            check.same("the corner across", x.walk(4 - right, 4 - down, NONE), 8);
        }
        EscapeCells mid = new EscapeCells(3, 3);
        mid.exit(1, 1, 1);
        int[] due = {2, 1, 2, 1, 0, 1, 2, 1, 2};
        for (int i = 0; i < 9; i++) {
            check.same("round an exit, cell " + i, mid.walk(i % 3, i / 3, NONE), due[i]);
        }
    }

    private static EscapeCells crowd(int persons, int delay) {
        EscapeCells x = new EscapeCells(24, 24);
        x.exit(23, 23, 5);
        for (int i = 0; i < persons; i++) {
            check.same("person " + i, x.person(i % 10, i / 10, 1, delay), i);
        }
        return x;
    }

    private static void sixtyPersons() {
        EscapeCells x = crowd(60, 0);
        check.illegalState("a 61st", () -> x.person(20, 20, 1, 0));
        x.run();
        check.same("all sixty come out", x.through(23, 23), 60);
        check.illegalState("a 61st, though all are out", () -> x.person(20, 20, 1, 0));
        check.same("there are no more than before", x.left(0), 60);
        EscapeCells late = crowd(60, 600);
        check.same("and late as they may be, each second later by that", late.run(), x.run() + 600);
        check.same("all are there until then", late.left(600), 60);
    }

    private static void newObject() {
        check.sentence("below 2 counts as 2", () -> {
            size(1, 1, 2, 2);
            size(2, 1, 2, 2);
            size(1, 2, 2, 2);
            size(0, 3, 2, 3);
            size(3, -1, 3, 2);
            size(Integer.MIN_VALUE, Integer.MIN_VALUE, 2, 2);
            size(2, 2, 2, 2);
            size(3, 3, 3, 3);
        });
        check.sentence("above 24 as 24", () -> {
            size(25, 2, 24, 2);
            size(2, 25, 2, 24);
            size(24, 24, 24, 24);
            size(23, 23, 23, 23);
            size(Integer.MAX_VALUE, Integer.MAX_VALUE, 24, 24);
            size(Integer.MAX_VALUE, Integer.MIN_VALUE, 24, 2);
        });
        check.sentence("all free, without persons", () -> {
            EscapeCells x = new EscapeCells(24, 2);
            for (int i = 0; i < 48; i++) {
                check.holds("no wall", !x.wall(i % 24, i / 24, false));
                check.same("no smoke", x.smoke(i % 24, i / 24, NONE), NONE);
            }
            check.same("no exit", x.ways(), 0);
            check.illegalArgument("no person's habit", () -> x.habit(0, NONE));
            check.same("no one runs", x.run(), 0);
            check.same("no one is in a cell", x.left(0), 0);
            for (int i = 0; i < 48; i++) {
                check.same("neither wall nor exit nor anyone", x.person(i % 24, i / 24, 1, 0), i);
            }
        });
    }

    private static void size(int width, int height, int across, int down) {
        String name = "new EscapeCells(" + width + ", " + height + ")";
        EscapeCells x = new EscapeCells(width, height);
        x.exit(0, 0, 1);
        check.same(name + ": cells", x.ways(), across * down);
        check.same(name + ": across", x.walk(across - 1, 0, NONE), across - 1);
        check.same(name + ": down", x.walk(0, down - 1, NONE), down - 1);
        check.illegalArgument(name + ": no more across", () -> x.walk(across, 0, NONE));
        check.illegalArgument(name + ": no more down", () -> x.walk(0, down, NONE));
    }

    private static void wall() {
        check.sentence("A cell becomes a wall (it is no exit and no door then", () -> {
            EscapeCells x = Storeys.corridor(4, 1, 0);
            x.door(2, 0, 1);
            check.holds("an exit was no wall", !x.wall(0, 0, true));
            check.holds("a door was no wall", !x.wall(2, 0, true));
            check.same("no exit", x.ways(), 0);
            x.wall(0, 0, false);
            check.same("nor is it one when it is free again", x.ways(), 0);
            check.throwsNothing("so that it may become a door", () -> x.door(0, 0, 1));
            x.wall(0, 0, true);
            x.wall(0, 0, false);
            check.same("and someone may come into it", x.person(0, 0, 1, 0), 0);
        });
        check.sentence("an exit's number is kept, and leads nowhere", StoreyBoundaryTest::numberOfWalledExit);
        check.sentence("or, if it is one, free again: whether it was one.", () -> {
            EscapeCells x = new EscapeCells(2, 2);
            check.holds("free, and stays so", !x.wall(1, 1, false));
            check.holds("a wall from now on", !x.wall(1, 1, true));
            check.holds("a wall, and stays one", x.wall(1, 1, true));
            check.holds("free from now on", x.wall(1, 1, false));
            check.holds("free, and stays so, again", !x.wall(1, 1, false));
            x.exit(0, 0, 1);
            x.door(1, 0, 1);
            check.holds("an exit is no wall", !x.wall(0, 0, false));
            check.holds("a door is no wall", !x.wall(1, 0, false));
            check.same("the exit is one still", x.walk(0, 0, 0), 0);
            check.illegalState("and no free cell for a door", () -> x.door(0, 0, 1));
            check.illegalState("or for a person", () -> x.person(0, 0, 1, 0));
            check.same("it keeps its number", x.exit(0, 0, 1), 0);
        });
        check.sentence("Illegal argument; illegal state: a person is in it.", () -> {
            EscapeCells x = Storeys.corridor(3, 1, 0);
            x.person(2, 0, 1, 0);
            check.illegalState("on", () -> x.wall(2, 0, true));
            check.illegalState("off", () -> x.wall(2, 0, false));
            check.throwsNothing("beside the person", () -> x.wall(1, 0, true));
            check.throwsNothing("beside the person, off", () -> x.wall(1, 0, false));
            x.run();
            check.illegalState("though it is out behind the run", () -> x.wall(2, 0, true));
            check.throwsNothing("where it came by in the run", () -> x.wall(1, 0, true));
            x.door(2, 0, 1);
            check.illegalState("in a door", () -> x.wall(2, 0, true));
        });
    }

    private static void numberOfWalledExit() {
        EscapeCells x = Storeys.corridor(4, 1, 0, 3);
        x.person(1, 0, 1, 0);
        x.habit(0, 0);
        x.wall(0, 0, true);
        check.same("the habit is kept", x.habit(0, 0), 0);
        check.same("walk to it", x.walk(1, 0, 0), NONE);
        check.same("walk to it from its own cell", x.walk(0, 0, 0), NONE);
        check.same("exit 1 is exit 1 still", x.walk(1, 0, 1), 2);
        check.same("run to any exit", x.run(), 2);
        check.same("by exit 1", x.told(0, 2), 1);
        x.wall(0, 0, false);
        check.same("free again it leads nowhere still", x.walk(1, 0, 0), NONE);
        check.same("the same cell gets a number of its own", x.exit(0, 0, 1), 2);
        check.same("and the old one leads nowhere still", x.walk(1, 0, 0), NONE);
        check.same("the new one leads there", x.walk(1, 0, 2), 1);
        check.same("the last number there is", x.habit(0, 2), 0);
        check.illegalArgument("the next one", () -> x.habit(0, 3));
        EscapeCells twice = Storeys.corridor(4, 1, 0, 3);
        for (int i = 0; i < 2; i++) {
            twice.wall(3, 0, true);
            check.same("exit 0 leads while the other is a wall", twice.walk(1, 0, 0), 1);
            twice.wall(3, 0, false);
        }
        check.same("and when it is free again", twice.walk(3, 0, NONE), 3);
    }

    private static void exit() {
        check.sentence("(also instead of one, or of a door)", () -> {
            EscapeCells x = Storeys.corridor(3, 1, 1);
            x.person(0, 0, 1, 0);
            x.person(2, 0, 1, 0);
            check.same("one in a second", x.run(), 2);
            check.same("instead of an exit", x.exit(1, 0, 2), 0);
            check.same("two in a second", x.run(), 1);
            EscapeCells door = Storeys.corridor(3);
            door.person(0, 0, 1, 0);
            door.person(2, 0, 1, 0);
            door.door(1, 0, 1);
            check.same("instead of a door", door.exit(1, 0, 2), 0);
            check.same("with the exit's rate", door.run(), 1);
            check.illegalState("it is no door any more", () -> door.door(1, 0, 1));
        });
        check.sentence("its number among exits, 0, 1, .. (an exit keeps its own)", () -> {
            EscapeCells x = eightExits();
            for (int i = 0; i < 8; i++) {
                check.same("walk of exit " + i + " to itself", x.walk(i % 4, i / 4, i), 0);
                check.same("exit " + i + " of eight keeps its own", x.exit(i % 4, i / 4, 5), i);
            }
        });
        check.sentence("Illegal argument: the rate is not 1 .. 5", () -> {
            EscapeCells x = Storeys.corridor(4);
            for (int rate : NO_RATES) {
                check.illegalArgument("rate " + rate, () -> x.exit(0, 0, rate));
            }
            check.same("no exit came of these", x.ways(), 0);
            check.same("rate 1", x.exit(0, 0, 1), 0);
            check.same("rate 5", x.exit(3, 0, 5), 1);
        });
        check.sentence("illegal state: it is a wall, a person is in it, or there were 8 exits.",
            StoreyBoundaryTest::refusedExits);
    }

    private static EscapeCells eightExits() {
        EscapeCells x = new EscapeCells(4, 4);
        for (int i = 0; i < 8; i++) {
            check.same("exit " + i, x.exit(i % 4, i / 4, 1), i);
        }
        return x;
    }

    private static void refusedExits() {
        EscapeCells x = Storeys.corridor(3);
        x.person(1, 0, 1, 0);
        check.illegalState("a wall", () -> x.exit(1, 1, 1));
        check.illegalState("a person", () -> x.exit(1, 0, 1));
        x.exit(0, 0, 1);
        x.run();
        check.illegalState("a person that is out behind the run", () -> x.exit(1, 0, 1));
        x.door(1, 0, 1);
        check.illegalState("a person in a door", () -> x.exit(1, 0, 1));
        EscapeCells full = eightExits();
        for (int i = 8; i < 16; i++) {
            int cell = i;
            check.illegalState("a ninth, cell " + i, () -> full.exit(cell % 4, cell / 4, 1));
        }
        for (int i = 0; i < 8; i++) {
            full.wall(i % 4, i / 4, true);
        }
        check.illegalState("there were eight, though none is left", () -> full.exit(3, 3, 1));
        full.wall(0, 0, false);
        check.illegalState("nor in the first one's cell", () -> full.exit(0, 0, 1));
        check.same("no ways", full.ways(), 0);
        EscapeCells again = new EscapeCells(2, 2);
        for (int i = 0; i < 8; i++) {
            check.same("the same cell over and over", again.exit(1, 1, 1), i);
            again.wall(1, 1, true);
            again.wall(1, 1, false);
        }
        check.illegalState("but eight times alone", () -> again.exit(1, 1, 1));
    }

    private static void door() {
        check.sentence("A cell becomes a door with a rate.", () -> {
            EscapeCells x = Storeys.corridor(3, 1, 0);
            x.person(2, 0, 1, 0);
            x.door(1, 0, 1);
            x.door(1, 0, 5);
            check.throwsNothing("where a person is", () -> x.door(2, 0, 1));
            check.same("a door is no exit: one goes on", x.run(), 2);
            check.same("through the door", x.through(1, 0), 1);
        });
        check.sentence("Illegal argument: as for exit(); illegal state: it is a wall or an exit.", () -> {
            EscapeCells x = Storeys.corridor(3, 1, 0);
            for (int rate : NO_RATES) {
                check.illegalArgument("rate " + rate, () -> x.door(1, 0, rate));
                check.illegalArgument("rate " + rate + " in a wall", () -> x.door(1, 1, rate));
                check.illegalArgument("rate " + rate + " in an exit", () -> x.door(0, 0, rate));
            }
            check.throwsNothing("rate 1", () -> x.door(1, 0, 1));
            check.throwsNothing("rate 5", () -> x.door(2, 0, 5));
            check.illegalState("a wall", () -> x.door(1, 1, 1));
            check.illegalState("an exit", () -> x.door(0, 0, 5));
            check.same("it is an exit still", x.walk(0, 0, 0), 0);
        });
    }

    private static void smoke() {
        check.sentence("(instead of what was told; 0 .. 3600), or never (NONE): from when it was barred, "
            + "NONE for never.", () -> {
                EscapeCells x = new EscapeCells(3, 3);
                int[] told = {0, 3600, 1, 3599, NONE, NONE, 3600, 0};
                int was = NONE;
                for (int second : told) {
                    check.same("smoke from " + second, x.smoke(2, 2, second), was);
                    was = second;
                }
                check.same("another cell", x.smoke(1, 2, NONE), NONE);
                for (int second : Storeys.outside(NONE, 3600)) {
                    check.illegalArgument("second " + second, () -> x.smoke(2, 2, second));
                }
                check.same("as before", x.smoke(2, 2, NONE), 0);
            });
        check.sentence("Smoke bars a cell from a second on", () -> {
            EscapeCells x = Storeys.corridor(3, 1, 0);
            check.same("a wall, too", x.smoke(1, 1, 5), NONE);
            check.same("an exit, too", x.smoke(0, 0, 3600), NONE);
            x.door(1, 0, 1);
            check.same("a door, too", x.smoke(1, 0, 3600), NONE);
            x.person(2, 0, 1, 0);
            check.same("where someone is, too", x.smoke(2, 0, 3600), NONE);
            check.same("that is late enough", x.run(), 2);
        });
    }

    private static void person() {
        check.sentence("with a PACE (how many seconds a step takes, 1 .. 5), a DELAY (0 .. 600 seconds)", () -> {
            int person = 0;
            EscapeCells x = new EscapeCells(5, 5);
            for (int pace = 1; pace <= 5; pace++) {
                check.same("pace " + pace + ", delay 0", x.person(pace - 1, 0, pace, 0), person);
                check.same("pace " + pace + ", delay 600", x.person(pace - 1, 1, pace, 600), person + 1);
                person += 2;
            }
        });
        check.sentence("Illegal argument: pace or delay are out of their bounds", () -> {
            EscapeCells x = Storeys.corridor(3, 1, 0);
            for (int pace : Storeys.outside(1, 5)) {
                check.illegalArgument("pace " + pace, () -> x.person(1, 0, pace, 0));
            }
            check.illegalArgument("pace -1", () -> x.person(1, 0, -1, 600));
            for (int delay : Storeys.outside(0, 600)) {
                check.illegalArgument("delay " + delay, () -> x.person(1, 0, 1, delay));
            }
            check.same("nobody came of these", x.person(1, 0, 5, 600), 0);
        });
        check.sentence("illegal state: the cell is a wall or an exit, or someone is in it, or there are 60.", () -> {
            EscapeCells x = Storeys.corridor(4, 1, 0);
            x.door(2, 0, 1);
            check.illegalState("a wall", () -> x.person(2, 1, 1, 0));
            check.illegalState("an exit", () -> x.person(0, 0, 1, 0));
            check.same("a door", x.person(2, 0, 1, 0), 0);
            check.illegalState("someone is in it", () -> x.person(2, 0, 1, 0));
            x.run();
            check.illegalState("someone came in it, and is out behind the run", () -> x.person(2, 0, 1, 0));
            x.wall(0, 0, true);
            check.illegalState("what was an exit is a wall", () -> x.person(0, 0, 1, 0));
            x.wall(0, 0, false);
            check.same("and free again", x.person(0, 0, 1, 0), 1);
            EscapeCells full = crowd(59, 0);
            check.same("the 60th", full.person(23, 0, 1, 0), 59);
            check.illegalState("a 61st", () -> full.person(22, 0, 1, 0));
        });
    }

    private static void habit() {
        check.sentence("A person's habit, an exit's number, or NONE: what it was.", () -> {
            EscapeCells x = eightExits();
            x.person(3, 3, 1, 0);
            int was = NONE;
            for (int exit : new int[] {NONE, 0, 7, 7, NONE, 3}) {
                check.same("habit " + exit, x.habit(0, exit), was);
                was = exit;
            }
        });
        check.sentence("Illegal argument: no such person, no such exit.", () -> {
            EscapeCells x = eightExits();
            check.illegalArgument("no persons at all", () -> x.habit(0, 0));
            x.person(3, 3, 1, 0);
            for (int person : Storeys.outside(0, 0)) {
                check.illegalArgument("person " + person, () -> x.habit(person, 0));
            }
            for (int exit : Storeys.outside(NONE, 7)) {
                check.illegalArgument("exit " + exit, () -> x.habit(0, exit));
            }
            check.same("none came of these", x.habit(0, 7), NONE);
            EscapeCells without = new EscapeCells(2, 2);
            without.person(0, 0, 1, 0);
            check.illegalArgument("no exits at all", () -> without.habit(0, 0));
            check.same("but NONE", without.habit(0, NONE), NONE);
            EscapeCells full = crowd(60, 0);
            check.same("the 60th person", full.habit(59, 0), NONE);
            check.illegalArgument("a 61st person", () -> full.habit(60, 0));
        });
    }
}
