/** Each promise of the document: ordinary inputs, its edges, and wrong inputs. */
public final class PromisesTest {
    private static final int NONE = EscapeCells.NONE;
    private static final int[] FAR = {Integer.MIN_VALUE, -2, Integer.MAX_VALUE};
    private static final Check check = new Check("PromisesTest");

    public static void main(String[] args) {
        newObject();
        wall();
        wallTakesExitOrDoor();
        exit();
        exitsAreEight();
        door();
        smoke();
        person();
        personsAreSixty();
        habit();
        ways();
        walk();
        runEnds();
        runTiming();
        runOrder();
        runLooks();
        runSmoke();
        runRates();
        runHabits();
        told();
        at();
        through();
        left();
        turns();
        signs();
        noRun();
        throwingChangesNothing();
        check.same("NONE", NONE, -1);
        check.finish();
    }

    private static void size(int width, int height, int cellsAcross, int cellsDown) {
        String name = "new EscapeCells(" + width + ", " + height + ")";
        EscapeCells x = new EscapeCells(width, height);
        for (int i = 0; i < cellsAcross; i++) {
            for (int j = 0; j < cellsDown; j++) {
                check.same(name + " smoke at first", x.smoke(i, j, NONE), NONE);
                check.holds(name + " free at first", !x.wall(i, j, false));
            }
        }
        check.illegalArgument(name + " beyond x", () -> x.smoke(cellsAcross, 0, 0));
        check.illegalArgument(name + " beyond y", () -> x.smoke(0, cellsDown, 0));
        check.illegalArgument(name + " below x", () -> x.smoke(-1, 0, 0));
        check.illegalArgument(name + " below y", () -> x.smoke(0, -1, 0));
        x.exit(0, 0, 1);
        check.same(name + " ways", x.ways(), cellsAcross * cellsDown);
        check.same(name + " farthest", x.walk(cellsAcross - 1, cellsDown - 1, NONE), cellsAcross + cellsDown - 2);
    }

    private static void newObject() {
        size(2, 2, 2, 2);
        size(1, 3, 2, 3);
        size(3, 0, 3, 2);
        size(Integer.MIN_VALUE, -1, 2, 2);
        size(24, 23, 24, 23);
        size(25, 24, 24, 24);
        size(Integer.MAX_VALUE, Integer.MAX_VALUE, 24, 24);
        size(5, 3, 5, 3);
        EscapeCells x = new EscapeCells(5, 3);
        check.same("ways at first", x.ways(), 0);
        check.same("turns at first", x.turns(), 0);
        check.same("signs at first", x.signs(), 0);
        check.illegalState("left at first", () -> x.left(0));
        check.illegalState("through at first", () -> x.through(0, 0));
        check.illegalArgument("told at first", () -> x.told(0, 0));
        check.illegalArgument("habit at first", () -> x.habit(0, NONE));
        check.illegalArgument("walk to exit 0 at first", () -> x.walk(0, 0, 0));
        check.same("walk at first", x.walk(0, 0, NONE), NONE);
        check.same("run at first", x.run(), 0);
    }

    private static void wall() {
        EscapeCells x = Storeys.corridor(5);
        x.exit(0, 0, 1);
        check.same("walk before the wall", x.walk(4, 0, NONE), 4);
        check.holds("it was no wall", !x.wall(2, 0, true));
        check.holds("it was one", x.wall(2, 0, true));
        check.same("ways before the wall's back", x.ways(), 2);
        check.same("walk behind the wall", x.walk(4, 0, NONE), NONE);
        check.same("walk of the wall", x.walk(2, 0, NONE), NONE);
        check.holds("it was one until now", x.wall(2, 0, false));
        check.holds("it is free again", !x.wall(2, 0, false));
        check.same("walk when free again", x.walk(4, 0, NONE), 4);
        check.illegalArgument("x is too great", () -> x.wall(5, 0, true));
        check.illegalArgument("y is too great", () -> x.wall(0, 2, false));
        for (int far : FAR) {
            check.illegalArgument("x " + far, () -> x.wall(far, 0, true));
            check.illegalArgument("y " + far, () -> x.wall(0, far, true));
        }
        x.person(3, 0, 1, 0);
        check.illegalState("wall on a person", () -> x.wall(3, 0, true));
        check.illegalState("no wall on a person", () -> x.wall(3, 0, false));
        check.same("walk with the person", x.walk(4, 0, NONE), 4);
        x.run();
        check.illegalState("wall where a person came, though it is out", () -> x.wall(3, 0, true));
        check.holds("wall where nobody came", !x.wall(2, 0, true));
    }

    private static void wallTakesExitOrDoor() {
        EscapeCells x = Storeys.corridor(5);
        x.exit(0, 0, 1);
        x.person(4, 0, 1, 0);
        check.holds("free stays as it is, an exit, too", !x.wall(0, 0, false));
        check.same("still an exit", x.walk(4, 0, 0), 4);
        check.illegalState("so that it is no door", () -> x.door(0, 0, 1));
        x.smoke(0, 0, 7);
        check.holds("wall on an exit", !x.wall(0, 0, true));
        check.same("ways without an exit", x.ways(), 0);
        check.same("the exit's number is kept, and leads nowhere", x.walk(4, 0, 0), NONE);
        check.same("its own cell, too", x.walk(0, 0, 0), NONE);
        check.same("habit of the exit that was", x.habit(0, 0), NONE);
        check.illegalState("exit in a wall", () -> x.exit(0, 0, 1));
        check.holds("free again", x.wall(0, 0, false));
        check.same("but no exit", x.walk(0, 0, NONE), NONE);
        check.same("smoke is no matter of walls", x.smoke(0, 0, NONE), 7);
        check.same("run by the habit of no exit", x.run(), 3600);
        check.same("a new number", x.exit(0, 0, 1), 1);
        check.same("the old one leads nowhere still", x.walk(4, 0, 0), NONE);
        check.same("the new one leads", x.walk(4, 0, 1), 4);
        check.same("habit of nowhere: any exit", x.run(), 4);
        check.same("by exit", x.told(0, 2), 1);
        x.door(2, 0, 3);
        check.holds("wall on a door", !x.wall(2, 0, true));
        check.illegalState("door in a wall", () -> x.door(2, 0, 1));
        check.holds("free from a door", x.wall(2, 0, false));
        check.same("walk over it", x.walk(4, 0, NONE), 4);
    }

    private static void exit() {
        EscapeCells x = Storeys.corridor(5);
        check.same("first exit", x.exit(4, 0, 1), 0);
        check.same("second exit", x.exit(0, 0, 5), 1);
        check.same("exit keeps its number", x.exit(4, 0, 3), 0);
        check.same("number of an exit", x.walk(4, 0, NONE), 0);
        x.door(2, 0, 1);
        check.same("exit instead of a door", x.exit(2, 0, 1), 2);
        check.illegalState("no door then", () -> x.door(2, 0, 1));
        for (int rate : new int[] {0, 6, -1, Integer.MIN_VALUE, Integer.MAX_VALUE}) {
            check.illegalArgument("rate " + rate, () -> x.exit(1, 0, rate));
            check.illegalArgument("rate " + rate + " of an exit", () -> x.exit(0, 0, rate));
            check.illegalArgument("rate " + rate + " in a wall", () -> x.exit(1, 1, rate));
        }
        for (int far : FAR) {
            check.illegalArgument("x " + far, () -> x.exit(far, 0, 1));
            check.illegalArgument("y " + far, () -> x.exit(0, far, 1));
        }
        check.illegalArgument("x 5", () -> x.exit(5, 0, 1));
        check.illegalArgument("y 2", () -> x.exit(0, 2, 1));
        check.illegalState("in a wall", () -> x.exit(1, 1, 1));
        x.person(1, 0, 1, 0);
        check.illegalState("with a person", () -> x.exit(1, 0, 1));
        check.illegalArgument("with a person, but no rate", () -> x.exit(1, 0, 0));
        check.same("no number was lost", x.exit(3, 0, 1), 3);
    }

    private static void exitsAreEight() {
        EscapeCells x = new EscapeCells(4, 4);
        for (int i = 0; i < 8; i++) {
            check.same("exit " + i, x.exit(i % 4, i / 4, 1), i);
        }
        check.illegalState("a ninth exit", () -> x.exit(0, 2, 1));
        check.illegalArgument("a ninth exit without a rate", () -> x.exit(0, 2, 0));
        check.same("one of the eight keeps its number", x.exit(3, 1, 2), 7);
        x.wall(0, 0, true);
        x.wall(0, 0, false);
        check.illegalState("there were eight, though seven are left", () -> x.exit(0, 0, 1));
        check.same("number of what was exit 0", x.walk(0, 0, NONE), 1);
        check.illegalArgument("walk to exit 8", () -> x.walk(0, 0, 8));
        check.same("walk to exit 7", x.walk(3, 3, 7), 2);
    }

    private static void door() {
        EscapeCells x = Storeys.corridor(5);
        x.exit(0, 0, 1);
        x.person(3, 0, 1, 0);
        x.person(4, 0, 1, 0);
        x.door(1, 0, 1);
        x.door(1, 0, 5);
        x.door(3, 0, 2);
        check.same("a door is walked over", x.walk(4, 0, NONE), 4);
        check.same("run over doors", x.run(), 4);
        check.same("through the door", x.through(1, 0), 2);
        check.same("through the door at first", x.through(3, 0), 1);
        for (int rate : new int[] {0, 6, -1, Integer.MIN_VALUE, Integer.MAX_VALUE}) {
            check.illegalArgument("rate " + rate, () -> x.door(2, 0, rate));
            check.illegalArgument("rate " + rate + " in a wall", () -> x.door(2, 1, rate));
        }
        for (int far : FAR) {
            check.illegalArgument("x " + far, () -> x.door(far, 0, 1));
            check.illegalArgument("y " + far, () -> x.door(0, far, 1));
        }
        check.illegalArgument("x 5", () -> x.door(5, 0, 1));
        check.illegalArgument("y 2", () -> x.door(0, 2, 1));
        check.illegalState("in a wall", () -> x.door(2, 1, 1));
        check.illegalState("in an exit", () -> x.door(0, 0, 1));
        check.same("the exit stays", x.walk(0, 0, 0), 0);
        check.same("a person may come in a door", newDoorPerson(), 0);
    }

    private static int newDoorPerson() {
        EscapeCells x = new EscapeCells(2, 2);
        x.door(0, 0, 1);
        return x.person(0, 0, 1, 0);
    }

    private static void smoke() {
        EscapeCells x = new EscapeCells(3, 3);
        check.same("never", x.smoke(1, 1, 0), NONE);
        check.same("from 0", x.smoke(1, 1, 3600), 0);
        check.same("from 3600", x.smoke(1, 1, NONE), 3600);
        check.same("never again", x.smoke(1, 1, 5), NONE);
        check.illegalArgument("second 3601", () -> x.smoke(1, 1, 3601));
        check.illegalArgument("x 3", () -> x.smoke(3, 1, 1));
        check.illegalArgument("y 3", () -> x.smoke(1, 3, 1));
        check.illegalArgument("x -1", () -> x.smoke(-1, 1, 1));
        for (int far : FAR) {
            check.illegalArgument("second " + far, () -> x.smoke(1, 1, far));
        }
        check.same("unchanged", x.smoke(1, 1, 5), 5);
        check.same("another cell", x.smoke(1, 2, 5), NONE);
        x.wall(0, 0, true);
        check.same("in a wall", x.smoke(0, 0, 9), NONE);
        check.same("still in the wall", x.smoke(0, 0, 9), 9);
        x.exit(2, 2, 1);
        check.same("in an exit", x.smoke(2, 2, 9), NONE);
    }

    private static void person() {
        EscapeCells x = new EscapeCells(3, 3);
        x.wall(0, 0, true);
        x.exit(1, 0, 1);
        check.same("first", x.person(2, 0, 1, 0), 0);
        check.same("second", x.person(2, 1, 5, 600), 1);
        check.illegalState("in a wall", () -> x.person(0, 0, 1, 0));
        check.illegalState("in an exit", () -> x.person(1, 0, 1, 0));
        check.illegalState("where someone is", () -> x.person(2, 1, 1, 0));
        for (int pace : new int[] {0, 6, -1, Integer.MIN_VALUE, Integer.MAX_VALUE}) {
            check.illegalArgument("pace " + pace, () -> x.person(1, 1, pace, 0));
            check.illegalArgument("pace " + pace + " in a wall", () -> x.person(0, 0, pace, 0));
        }
        for (int delay : new int[] {-1, 601, Integer.MIN_VALUE, Integer.MAX_VALUE}) {
            check.illegalArgument("delay " + delay, () -> x.person(1, 1, 1, delay));
            check.illegalArgument("delay " + delay + " where someone is", () -> x.person(2, 1, 1, delay));
        }
        for (int far : FAR) {
            check.illegalArgument("x " + far, () -> x.person(far, 0, 1, 0));
            check.illegalArgument("y " + far, () -> x.person(0, far, 1, 0));
        }
        check.illegalArgument("x 3", () -> x.person(3, 0, 1, 0));
        check.illegalArgument("y 3", () -> x.person(0, 3, 1, 0));
        check.same("no number was lost", x.person(1, 1, 1, 0), 2);
        check.same("habit at first", x.habit(2, NONE), NONE);
        x.run();
        check.illegalState("where someone came, though it is out", () -> x.person(2, 0, 1, 0));
    }

    private static void personsAreSixty() {
        EscapeCells x = new EscapeCells(24, 24);
        x.exit(23, 23, 5);
        for (int i = 0; i < 60; i++) {
            check.same("person " + i, x.person(i % 10, i / 10, 1, 0), i);
        }
        check.illegalState("a 61st", () -> x.person(20, 20, 1, 0));
        check.illegalArgument("a 61st without a pace", () -> x.person(20, 20, 0, 0));
        check.illegalArgument("habit of the 61st", () -> x.habit(60, 0));
        x.run();
        check.same("all came out", x.through(23, 23), 60);
        check.same("the farthest made all its steps", x.told(0, 3), 46);
    }

    private static void habit() {
        EscapeCells x = Storeys.corridor(5);
        x.exit(0, 0, 1);
        x.exit(4, 0, 1);
        x.person(1, 0, 1, 0);
        check.same("none at first", x.habit(0, 1), NONE);
        check.same("was 1", x.habit(0, 0), 1);
        check.same("was 0", x.habit(0, NONE), 0);
        check.same("was none", x.habit(0, 1), NONE);
        check.illegalArgument("exit 2", () -> x.habit(0, 2));
        check.illegalArgument("person 1", () -> x.habit(1, 0));
        check.illegalArgument("person -1", () -> x.habit(-1, 0));
        for (int far : FAR) {
            check.illegalArgument("exit " + far, () -> x.habit(0, far));
            check.illegalArgument("person " + far, () -> x.habit(far, 0));
        }
        check.same("unchanged", x.habit(0, 1), 1);
        check.same("run by it", x.run(), 3);
        check.same("to it", x.told(0, 2), 1);
        x.habit(0, NONE);
        check.same("run without it", x.run(), 1);
        check.same("to the nearest", x.told(0, 2), 0);
    }

    private static void ways() {
        EscapeCells x = new EscapeCells(5, 3);
        check.same("no exit", x.ways(), 0);
        x.exit(0, 0, 1);
        check.same("all", x.ways(), 15);
        for (int y = 0; y < 3; y++) {
            x.wall(2, y, true);
        }
        check.same("one side", x.ways(), 6);
        x.exit(4, 2, 1);
        check.same("both sides", x.ways(), 12);
        x.smoke(1, 1, 0);
        check.same("smoke is not asked for", x.ways(), 12);
        x.wall(0, 0, true);
        check.same("the other side", x.ways(), 6);
    }

    private static void walk() {
        EscapeCells x = Storeys.corridor(5);
        x.exit(0, 0, 1);
        x.exit(2, 0, 1);
        check.same("nearest exit", x.walk(4, 0, NONE), 2);
        check.same("through the other exit", x.walk(4, 0, 0), 4);
        check.same("to the other exit", x.walk(4, 0, 1), 2);
        check.same("of an exit, to any", x.walk(2, 0, NONE), 0);
        check.same("of an exit, to the other", x.walk(2, 0, 0), 2);
        check.same("of an exit, to itself", x.walk(2, 0, 1), 0);
        check.same("of a wall", x.walk(2, 1, NONE), NONE);
        x.smoke(1, 0, 0);
        x.door(1, 0, 1);
        x.person(3, 0, 1, 0);
        check.same("smoke, doors and persons are not asked for", x.walk(4, 0, 0), 4);
        check.illegalArgument("exit 2", () -> x.walk(0, 0, 2));
        check.illegalArgument("x 5", () -> x.walk(5, 0, 0));
        check.illegalArgument("y 2", () -> x.walk(0, 2, 0));
        check.illegalArgument("x -1", () -> x.walk(-1, 0, NONE));
        for (int far : FAR) {
            check.illegalArgument("exit " + far, () -> x.walk(0, 0, far));
            check.illegalArgument("x " + far, () -> x.walk(far, 0, 0));
            check.illegalArgument("y " + far, () -> x.walk(0, far, 0));
        }
        EscapeCells around = new EscapeCells(3, 3);
        around.exit(0, 0, 1);
        around.wall(1, 0, true);
        around.wall(1, 1, true);
        check.same("around walls", around.walk(2, 0, NONE), 6);
    }

    private static void runEnds() {
        EscapeCells x = Storeys.corridor(5);
        check.same("nobody", x.run(), 0);
        check.same("nobody left", x.left(3600), 0);
        x.person(4, 0, 1, 0);
        check.same("no exit", x.run(), 3600);
        check.same("waiting", x.told(0, 0), 0);
        x.exit(0, 0, 1);
        check.same("to the exit", x.run(), 4);
        check.same("again", x.run(), 4);
        x.wall(2, 0, true);
        check.same("exit out of reach", x.run(), 3600);
        x.smoke(4, 0, 3600);
        check.same("caught in the last second", x.run(), 3600);
        check.same("caught", x.told(0, 0), 2);
        check.same("in it", x.told(0, 1), 3600);
        x.smoke(4, 0, 3599);
        check.same("caught before the last second", x.run(), 3599);
        x.person(3, 0, 1, 0);
        check.same("the other one waits on", x.run(), 3600);
    }

    private static void runTiming() {
        EscapeCells x = Storeys.corridor(5);
        x.exit(0, 0, 1);
        x.person(4, 0, 2, 3);
        check.same("delay 3, pace 2, four steps", x.run(), 11);
        check.same("not before delay and pace are over", x.at(0, 4, 0), 4);
        check.same("first step", x.at(0, 5, 0), 3);
        check.same("waits for its pace", x.at(0, 6, 0), 3);
        check.same("second step", x.at(0, 7, 0), 2);
        EscapeCells late = Storeys.corridor(3);
        late.exit(0, 0, 1);
        late.person(2, 0, 5, 600);
        check.same("latest and slowest", late.run(), 610);
        EscapeCells held = Storeys.corridor(4);
        held.exit(0, 0, 1);
        held.person(1, 0, 1, 9);
        held.person(2, 0, 3, 0);
        check.same("one held up steps as soon as it can", held.run(), 13);
        check.same("the first at 10, the second behind it at once", held.at(1, 10, 0), 1);
    }

    private static void runOrder() {
        EscapeCells x = Storeys.corridor(4);
        x.exit(0, 0, 1);
        x.person(2, 0, 1, 0);
        x.person(1, 0, 1, 0);
        check.same("the nearer goes first, and the other follows at once", x.run(), 2);
        EscapeCells tie = Storeys.corridor(3);
        tie.exit(1, 0, 1);
        tie.person(2, 0, 1, 0);
        tie.person(0, 0, 1, 0);
        check.same("one in a second", tie.run(), 2);
        check.same("of two as near the lesser number", tie.told(0, 1), 1);
        check.same("and then the other", tie.told(1, 1), 2);
    }

    private static void runLooks() {
        EscapeCells down = new EscapeCells(3, 3);
        down.exit(2, 2, 1);
        down.person(0, 0, 1, 0);
        down.run();
        check.same("x + 1 before y + 1", down.at(0, 2, 0) * 10 + down.at(0, 2, 1), 20);
        EscapeCells up = new EscapeCells(3, 3);
        up.exit(0, 0, 1);
        up.person(2, 2, 1, 0);
        up.run();
        check.same("x - 1 before y - 1", up.at(0, 2, 0) * 10 + up.at(0, 2, 1), 2);
        EscapeCells across = Storeys.corridor(5);
        across.exit(0, 0, 1);
        across.exit(4, 0, 1);
        across.person(2, 0, 1, 0);
        across.run();
        check.same("x + 1 before x - 1", across.told(0, 2), 1);
        EscapeCells equal = Storeys.corridor(6);
        equal.exit(0, 0, 1);
        equal.exit(5, 0, 1);
        equal.person(2, 0, 1, 0);
        check.same("an equal number is not less", equal.run(), 2);
        check.same("so that it goes the other way", equal.told(0, 2), 0);
        EscapeCells column = new EscapeCells(2, 5);
        for (int y = 0; y < 5; y++) {
            column.wall(1, y, true);
        }
        column.exit(0, 0, 1);
        column.exit(0, 4, 1);
        column.person(0, 2, 1, 0);
        column.run();
        check.same("y + 1 before y - 1", column.told(0, 2), 1);
        EscapeCells other = new EscapeCells(3, 3);
        other.exit(0, 2, 1);
        other.person(1, 1, 1, 0);
        other.run();
        check.same("x - 1 before y + 1", other.at(0, 1, 0) * 10 + other.at(0, 1, 1), 1);
        other.person(0, 1, 1, 600);
        other.run();
        check.same("the next one if someone is in the first", other.at(0, 1, 0) * 10 + other.at(0, 1, 1), 12);
    }

    private static void runSmoke() {
        EscapeCells x = new EscapeCells(3, 3);
        x.exit(0, 2, 1);
        x.person(1, 1, 1, 0);
        x.smoke(0, 1, 1);
        check.same("out beside the smoke", x.run(), 2);
        check.same("a barred cell is not entered", x.at(0, 1, 0) * 10 + x.at(0, 1, 1), 12);
        x.smoke(0, 1, 2);
        check.same("caught in a cell that was entered", x.run(), 2);
        check.same("caught", x.told(0, 0), 2);
        check.same("one step", x.told(0, 3), 1);
        check.same("no exit", x.told(0, 2), NONE);
        check.same("in no cell", x.at(0, 2, 0), NONE);
        check.same("in a cell before", x.at(0, 1, 1), 1);
        EscapeCells near = Storeys.corridor(3);
        near.exit(0, 0, 1);
        near.person(1, 0, 1, 0);
        near.smoke(1, 0, 1);
        near.run();
        check.same("caught before it can step", near.told(0, 0), 2);
        near.smoke(1, 0, 2);
        near.run();
        check.same("out before the smoke", near.told(0, 0), 1);
        near.smoke(1, 0, 0);
        check.same("smoke from 0 on catches in second 1", near.run(), 1);
        check.same("it is there at first", near.at(0, 0, 0), 1);
        near.smoke(1, 0, NONE);
        near.smoke(0, 0, 1);
        check.same("a barred exit", near.run(), 3600);
        near.smoke(0, 0, 2);
        check.same("an exit barred too late", near.run(), 1);
    }

    private static void runRates() {
        EscapeCells x = new EscapeCells(3, 2);
        x.exit(1, 0, 1);
        x.person(0, 0, 1, 0);
        x.person(2, 0, 1, 0);
        x.person(1, 1, 1, 0);
        check.same("rate 1", x.run(), 3);
        x.exit(1, 0, 2);
        check.same("rate 2", x.run(), 2);
        check.same("two in the first second", x.left(1), 1);
        x.exit(1, 0, 3);
        check.same("rate 3", x.run(), 1);
        EscapeCells passed = Storeys.corridor(5);
        passed.exit(0, 0, 1);
        passed.exit(2, 0, 1);
        passed.person(1, 0, 1, 0);
        passed.person(3, 0, 1, 0);
        passed.habit(1, 0);
        passed.run();
        check.same("the rate holds for one who passes through, too", passed.told(1, 1), 4);
        passed.exit(2, 0, 2);
        passed.run();
        check.same("rate 2 lets it pass", passed.told(1, 1), 3);
    }

    private static void runHabits() {
        EscapeCells x = Storeys.corridor(5);
        x.exit(0, 0, 1);
        x.exit(2, 0, 1);
        x.person(4, 0, 1, 0);
        x.habit(0, 0);
        check.same("through the other exit", x.run(), 4);
        check.same("in the other exit", x.at(0, 2, 0), 2);
        check.same("by its own", x.told(0, 2), 0);
        check.same("it came into the other", x.through(2, 0), 1);
        x.wall(1, 0, true);
        check.same("any, if its own is out of reach", x.run(), 2);
        check.same("by the other", x.told(0, 2), 1);
        EscapeCells block = Storeys.corridor(5);
        block.exit(0, 0, 1);
        block.exit(2, 0, 5);
        block.person(3, 0, 5, 0);
        block.person(4, 0, 1, 5);
        block.habit(0, 0);
        check.same("one who stands in an exit", block.run(), 15);
        check.same("bars it for the other until it has gone on", block.told(1, 1), 11);
        EscapeCells order = Storeys.corridor(5);
        order.exit(0, 0, 1);
        order.exit(2, 0, 1);
        order.person(3, 0, 1, 0);
        order.person(1, 0, 1, 0);
        order.habit(0, 0);
        order.run();
        check.same("the order goes by the habit's numbers", order.told(1, 2), 1);
    }

    private static void told() {
        EscapeCells x = Storeys.corridor(5);
        x.exit(0, 0, 1);
        x.person(2, 0, 1, 0);
        x.person(3, 0, 1, 600);
        x.person(4, 0, 1, 0);
        x.smoke(3, 0, 9);
        check.illegalState("no run", () -> x.told(0, 0));
        check.illegalArgument("no run and no person", () -> x.told(3, 0));
        check.illegalArgument("no run and no question", () -> x.told(0, 4));
        x.run();
        int[][] due = {{1, 2, 0, 2}, {2, 9, NONE, 0}, {0, NONE, NONE, 0}};
        for (int person = 0; person < 3; person++) {
            for (int what = 0; what < 4; what++) {
                check.same("told(" + person + ", " + what + ")", x.told(person, what), due[person][what]);
            }
        }
        check.illegalArgument("person 3", () -> x.told(3, 0));
        check.illegalArgument("person -1", () -> x.told(-1, 0));
        check.illegalArgument("what 4", () -> x.told(0, 4));
        check.illegalArgument("what -1", () -> x.told(0, -1));
        for (int far : FAR) {
            check.illegalArgument("person " + far, () -> x.told(far, 0));
            check.illegalArgument("what " + far, () -> x.told(0, far));
        }
    }

    private static void at() {
        EscapeCells x = new EscapeCells(4, 4);
        x.exit(0, 3, 1);
        x.person(1, 1, 2, 0);
        check.illegalState("no run", () -> x.at(0, 0, 0));
        check.illegalArgument("no run and no axis", () -> x.at(0, 0, 2));
        check.same("run", x.run(), 6);
        int[] dueX = {1, 1, 0, 0, 0, 0, NONE, NONE};
        int[] dueY = {1, 1, 1, 1, 2, 2, NONE, NONE};
        for (int second = 0; second < dueX.length; second++) {
            check.same("x behind " + second, x.at(0, second, 0), dueX[second]);
            check.same("y behind " + second, x.at(0, second, 1), dueY[second]);
        }
        check.same("behind the last second", x.at(0, 3600, 0), NONE);
        check.illegalArgument("second 3601", () -> x.at(0, 3601, 0));
        check.illegalArgument("second -1", () -> x.at(0, -1, 0));
        check.illegalArgument("person 1", () -> x.at(1, 0, 0));
        check.illegalArgument("person -1", () -> x.at(-1, 0, 0));
        check.illegalArgument("axis 2", () -> x.at(0, 0, 2));
        check.illegalArgument("axis -1", () -> x.at(0, 0, -1));
        for (int far : FAR) {
            check.illegalArgument("second " + far, () -> x.at(0, far, 0));
            check.illegalArgument("person " + far, () -> x.at(far, 0, 0));
            check.illegalArgument("axis " + far, () -> x.at(0, 0, far));
        }
        x.wall(0, 2, true);
        x.wall(1, 3, true);
        x.run();
        check.same("waiting to the last", x.at(0, 3600, 0) * 10 + x.at(0, 3600, 1), 11);
    }

    private static void through() {
        EscapeCells x = Storeys.corridor(5);
        x.exit(0, 0, 1);
        x.person(2, 0, 1, 0);
        x.person(3, 0, 1, 0);
        check.illegalState("no run", () -> x.through(0, 0));
        check.illegalArgument("no run and no cell", () -> x.through(5, 0));
        x.run();
        int[] due = {2, 2, 1, 0, 0};
        for (int i = 0; i < due.length; i++) {
            check.same("through " + i, x.through(i, 0), due[i]);
        }
        check.same("through a wall", x.through(0, 1), 0);
        x.smoke(4, 0, 5);
        x.run();
        check.same("of the latest run alone", x.through(0, 0), 2);
        check.illegalArgument("x 5", () -> x.through(5, 0));
        check.illegalArgument("y 2", () -> x.through(0, 2));
        check.illegalArgument("x -1", () -> x.through(-1, 0));
        for (int far : FAR) {
            check.illegalArgument("x " + far, () -> x.through(far, 0));
            check.illegalArgument("y " + far, () -> x.through(0, far));
        }
    }

    private static void left() {
        EscapeCells x = Storeys.corridor(6);
        x.exit(0, 0, 1);
        x.person(2, 0, 1, 0);
        x.person(3, 0, 1, 0);
        x.person(5, 0, 1, 600);
        x.smoke(5, 0, 5);
        check.illegalState("no run", () -> x.left(0));
        check.illegalArgument("no run and no second", () -> x.left(3601));
        check.same("run", x.run(), 5);
        int[] due = {3, 3, 2, 1, 1, 0, 0};
        for (int second = 0; second < due.length; second++) {
            check.same("left behind " + second, x.left(second), due[second]);
        }
        check.same("left behind 3600", x.left(3600), 0);
        check.illegalArgument("second 3601", () -> x.left(3601));
        check.illegalArgument("second -1", () -> x.left(-1));
        for (int far : FAR) {
            check.illegalArgument("second " + far, () -> x.left(far));
        }
        x.smoke(5, 0, NONE);
        x.wall(4, 0, true);
        x.run();
        check.same("one waits on", x.left(3600), 1);
    }

    private static void turns() {
        EscapeCells x = new EscapeCells(3, 3);
        x.exit(0, 0, 1);
        check.same("all but the edges by the exit", x.turns(), 4);
        x.wall(1, 0, true);
        check.same("with a wall", x.turns(), 2);
        x.smoke(0, 1, 0);
        check.same("with smoke", x.turns(), 2);
        EscapeCells between = Storeys.corridor(5);
        between.exit(0, 0, 1);
        between.exit(4, 0, 1);
        check.same("between two exits", between.turns(), 1);
        between.exit(2, 0, 1);
        check.same("an exit is none, but the cells between exits are", between.turns(), 2);
    }

    private static void signs() {
        EscapeCells x = new EscapeCells(3, 3);
        x.exit(0, 0, 1);
        check.same("one for all four", x.signs(), 1);
        // Two rows with an exit in a corner: each cell of the other row is a turn, but for the last.
        int[] due = {0, 0, 1, 1, 1, 1, 1, 2, 2, 2, 2, 2, 3, 3, NONE, NONE};
        for (int width = 2; width < due.length; width++) {
            EscapeCells rows = new EscapeCells(width, 2);
            rows.exit(width - 1, 1, 1);
            check.same("turns of two rows of " + width, rows.turns(), width - 1);
            check.same("signs of two rows of " + width, rows.signs(), due[width]);
        }
        EscapeCells apart = new EscapeCells(5, 3);
        for (int i = 0; i < 5; i++) {
            apart.wall(i, 1, true);
        }
        apart.exit(0, 0, 1);
        apart.exit(4, 0, 1);
        apart.exit(0, 2, 1);
        apart.exit(4, 2, 1);
        check.same("two turns", apart.turns(), 2);
        check.same("a sign does not show through a wall", apart.signs(), 2);
        apart.wall(2, 1, false);
        check.same("the gap is a turn, too", apart.turns(), 3);
        check.same("one sign in the gap", apart.signs(), 1);
    }

    private static void noRun() {
        EscapeCells x = Storeys.corridor(5);
        x.exit(0, 0, 1);
        x.person(2, 0, 1, 0);
        Check.Call[] changes = {
            () -> x.wall(4, 0, false), () -> x.wall(4, 0, true), () -> x.wall(4, 0, true), () -> x.exit(0, 0, 1),
            () -> x.door(3, 0, 1), () -> x.smoke(3, 0, NONE), () -> x.person(3, 0, 1, 0), () -> x.habit(0, NONE)};
        for (int i = 0; i < changes.length; i++) {
            x.run();
            check.same("left behind the run", x.left(0), i < 7 ? 1 : 2);
            changes[i].make();
            check.illegalState("told behind change " + i, () -> x.told(0, 0));
            check.illegalState("at behind change " + i, () -> x.at(0, 0, 0));
            check.illegalState("through behind change " + i, () -> x.through(0, 0));
            check.illegalState("left behind change " + i, () -> x.left(0));
        }
    }

    private static void throwingChangesNothing() {
        EscapeCells x = Storeys.corridor(5);
        x.exit(0, 0, 1);
        x.person(2, 0, 1, 0);
        x.run();
        x.ways();
        x.walk(0, 0, NONE);
        x.turns();
        x.signs();
        check.illegalState("wall", () -> x.wall(2, 0, true));
        check.illegalArgument("wall", () -> x.wall(5, 0, true));
        check.illegalState("exit", () -> x.exit(2, 0, 1));
        check.illegalArgument("exit", () -> x.exit(0, 0, 6));
        check.illegalState("door", () -> x.door(0, 0, 1));
        check.illegalArgument("door", () -> x.door(1, 0, 6));
        check.illegalArgument("smoke", () -> x.smoke(1, 0, 3601));
        check.illegalState("person", () -> x.person(2, 0, 1, 0));
        check.illegalArgument("person", () -> x.person(3, 0, 1, 601));
        check.illegalArgument("habit", () -> x.habit(0, 1));
        check.same("the run is there still", x.told(0, 1), 2);
        check.same("left", x.left(1), 1);
    }
}
