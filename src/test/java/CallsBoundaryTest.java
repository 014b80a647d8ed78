import java.util.ArrayList;
import java.util.List;

/** What the document says of all calls: numbers out of their bounds, which exception, and what it leaves as it was. */
public final class CallsBoundaryTest {
    private static final int NONE = EscapeCells.NONE;
    private static final int WIDTH = 4;
    private static final int HEIGHT = 3;
    private static final Check check = new Check("CallsBoundaryTest");

    private interface OnStorey {
        void make(EscapeCells storey);
    }

    private interface WithNumber {
        void make(EscapeCells storey, int number);
    }

    private record Named(String name, OnStorey call) {
    }

    /** A number of a call's, with its least and its greatest value. */
    private record Bounds(String name, int least, int most, WithNumber call) {
    }

    /** Each number of each call; the other numbers are such that the call throws for this one alone, if at all. */
    private static final Bounds[] BOUNDS = {
        new Bounds("wall's x", 0, 3, (s, n) -> s.wall(n, 2, true)),
        new Bounds("wall's y", 0, 2, (s, n) -> s.wall(3, n, true)),
        new Bounds("exit's x", 0, 3, (s, n) -> s.exit(n, 2, 1)),
        new Bounds("exit's y", 0, 2, (s, n) -> s.exit(3, n, 1)),
        new Bounds("exit's rate", 1, 5, (s, n) -> s.exit(3, 2, n)),
        new Bounds("door's x", 0, 3, (s, n) -> s.door(n, 2, 1)),
        new Bounds("door's y", 0, 2, (s, n) -> s.door(3, n, 1)),
        new Bounds("door's rate", 1, 5, (s, n) -> s.door(3, 2, n)),
        new Bounds("smoke's x", 0, 3, (s, n) -> s.smoke(n, 2, 0)),
        new Bounds("smoke's y", 0, 2, (s, n) -> s.smoke(3, n, 0)),
        new Bounds("smoke's second", NONE, 3600, (s, n) -> s.smoke(3, 2, n)),
        new Bounds("person's x", 0, 3, (s, n) -> s.person(n, 2, 1, 0)),
        new Bounds("person's y", 0, 2, (s, n) -> s.person(3, n, 1, 0)),
        new Bounds("person's pace", 1, 5, (s, n) -> s.person(3, 2, n, 0)),
        new Bounds("person's delay", 0, 600, (s, n) -> s.person(3, 2, 1, n)),
        new Bounds("habit's person", 0, 2, (s, n) -> s.habit(n, 0)),
        new Bounds("habit's exit", NONE, 1, (s, n) -> s.habit(0, n)),
        new Bounds("walk's x", 0, 3, (s, n) -> s.walk(n, 2, 0)),
        new Bounds("walk's y", 0, 2, (s, n) -> s.walk(3, n, 0)),
        new Bounds("walk's exit", NONE, 1, (s, n) -> s.walk(3, 2, n)),
        new Bounds("told's person", 0, 2, (s, n) -> s.told(n, 0)),
        new Bounds("told's what", 0, 3, (s, n) -> s.told(0, n)),
        new Bounds("at's person", 0, 2, (s, n) -> s.at(n, 0, 0)),
        new Bounds("at's second", 0, 3600, (s, n) -> s.at(0, n, 0)),
        new Bounds("at's axis", 0, 1, (s, n) -> s.at(0, 0, n)),
        new Bounds("through's x", 0, 3, (s, n) -> s.through(n, 2)),
        new Bounds("through's y", 0, 2, (s, n) -> s.through(3, n)),
        new Bounds("left's second", 0, 3600, (s, n) -> s.left(n))};

    /** Calls that the storey of storey() refuses by its state alone. */
    private static final Named[] ILLEGAL_STATES = {
        new Named("wall on where a person is", s -> s.wall(2, 0, true)),
        new Named("wall off where a person is", s -> s.wall(2, 0, false)),
        new Named("exit in a wall", s -> s.exit(1, 1, 1)),
        new Named("exit where a person is", s -> s.exit(2, 0, 1)),
        new Named("door in a wall", s -> s.door(1, 1, 1)),
        new Named("door in an exit", s -> s.door(0, 0, 5)),
        new Named("person in a wall", s -> s.person(1, 1, 1, 0)),
        new Named("person in an exit", s -> s.person(0, 0, 1, 0)),
        new Named("person where one is", s -> s.person(2, 0, 1, 0))};

    /** Calls that change the storey of storey(), or could, and so take the run away. */
    private static final Named[] CHANGES = {
        new Named("a wall more", s -> s.wall(3, 2, true)),
        new Named("a wall that is one", s -> s.wall(1, 1, true)),
        new Named("a wall less", s -> s.wall(1, 1, false)),
        new Named("free that is free", s -> s.wall(3, 2, false)),
        new Named("an exit more", s -> s.exit(3, 2, 1)),
        new Named("an exit with its own rate", s -> s.exit(0, 0, 2)),
        new Named("a door more", s -> s.door(3, 2, 1)),
        new Named("a door with its own rate", s -> s.door(1, 0, 3)),
        new Named("smoke", s -> s.smoke(3, 2, 5)),
        new Named("smoke as it was", s -> s.smoke(2, 2, 7)),
        new Named("no smoke where none was", s -> s.smoke(3, 2, NONE)),
        new Named("a person more", s -> s.person(3, 2, 1, 0)),
        new Named("a habit", s -> s.habit(0, 0)),
        new Named("a habit as it was", s -> s.habit(1, 1)),
        new Named("no habit where none was", s -> s.habit(0, NONE))};

    public static void main(String[] args) {
        check.sentence("In all calls illegal argument: a number is out of its bounds.", CallsBoundaryTest::bounds);
        check.sentence("Illegal state: as told there.", CallsBoundaryTest::illegalStates);
        check.sentence("Of several exceptions the one named first is thrown", CallsBoundaryTest::firstNamed);
        check.sentence("a call that throws changes nothing.", CallsBoundaryTest::refusedCalls);
        check.sentence("Behind any of wall(), exit(), door(), smoke(), person(), habit() that does not throw "
            + "there was no run.", CallsBoundaryTest::noRun);
        check.finish();
    }

    /** Free cells at the right and below, and one of each thing: exits, a door, a wall, smoke, persons, a habit. */
    private static EscapeCells storey() {
        EscapeCells x = new EscapeCells(WIDTH, HEIGHT);
        x.exit(0, 0, 2);
        x.exit(0, 1, 1);
        x.wall(1, 1, true);
        x.door(1, 0, 3);
        x.smoke(2, 2, 7);
        x.person(2, 0, 1, 0);
        x.person(3, 0, 2, 1);
        x.person(2, 1, 1, 3);
        x.habit(1, 1);
        return x;
    }

    private static EscapeCells ranStorey() {
        EscapeCells x = storey();
        x.run();
        return x;
    }

    private static void bounds() {
        for (Bounds b : BOUNDS) {
            for (int n : new int[] {b.least, b.most}) {
                EscapeCells x = roomAt(b);
                check.throwsNothing(b.name + " " + n, () -> b.call.make(x, n));
            }
            for (int n : Storeys.outside(b.least, b.most)) {
                EscapeCells x = roomAt(b);
                check.illegalArgument(b.name + " " + n, () -> b.call.make(x, n));
            }
        }
    }

    /** The calls for y ask for a free column 3, and in that of storey() there is a person. */
    private static EscapeCells roomAt(Bounds b) {
        if (!b.name.endsWith(" y")) {
            return ranStorey();
        }
        EscapeCells x = new EscapeCells(WIDTH, HEIGHT);
        x.exit(0, 0, 1);
        x.run();
        return x;
    }

    private static void illegalStates() {
        for (Named named : ILLEGAL_STATES) {
            EscapeCells x = storey();
            check.illegalState(named.name, () -> named.call.make(x));
            x.run();
            check.illegalState(named.name + ", behind a run", () -> named.call.make(x));
        }
    }

    private static void firstNamed() {
        for (Bounds b : BOUNDS) {
            EscapeCells none = storey();
            for (int n : Storeys.outside(b.least, b.most)) {
                check.illegalArgument(b.name + " " + n + " without a run", () -> b.call.make(none, n));
            }
        }
        EscapeCells x = ranStorey();
        for (int rate : Storeys.outside(1, 5)) {
            check.illegalArgument("exit in a wall, rate " + rate, () -> x.exit(1, 1, rate));
            check.illegalArgument("exit where a person is, rate " + rate, () -> x.exit(2, 0, rate));
            check.illegalArgument("door in a wall, rate " + rate, () -> x.door(1, 1, rate));
            check.illegalArgument("door in an exit, rate " + rate, () -> x.door(0, 0, rate));
            check.illegalArgument("person in a wall, pace " + rate, () -> x.person(1, 1, rate, 0));
            check.illegalArgument("person in an exit, pace " + rate, () -> x.person(0, 0, rate, 0));
            check.illegalArgument("person where one is, pace " + rate, () -> x.person(2, 0, rate, 0));
        }
        for (int delay : Storeys.outside(0, 600)) {
            check.illegalArgument("person in a wall, delay " + delay, () -> x.person(1, 1, 1, delay));
            check.illegalArgument("person where one is, delay " + delay, () -> x.person(2, 0, 1, delay));
        }
        fullStorey();
    }

    private static void fullStorey() {
        EscapeCells exits = new EscapeCells(5, 2);
        for (int i = 0; i < 8; i++) {
            exits.exit(i % 4, i / 4, 1);
        }
        check.illegalState("a ninth exit", () -> exits.exit(4, 0, 1));
        check.illegalArgument("a ninth exit without a rate", () -> exits.exit(4, 0, 0));
        check.illegalArgument("a ninth exit without a cell", () -> exits.exit(5, 0, 1));
        EscapeCells persons = new EscapeCells(24, 24);
        for (int i = 0; i < 60; i++) {
            persons.person(i % 20, i / 20, 1, 0);
        }
        check.illegalState("a 61st person", () -> persons.person(20, 20, 1, 0));
        check.illegalArgument("a 61st person without a pace", () -> persons.person(20, 20, 6, 0));
        check.illegalArgument("a 61st person with no such delay", () -> persons.person(20, 20, 1, 601));
        check.illegalArgument("a 61st person without a cell", () -> persons.person(20, 24, 1, 0));
    }

    /** Two storeys alike: one gets the call that throws, and then both must answer alike. */
    private static void refusedCalls() {
        String dueBehindRun = answers(ranStorey(), true);
        String due = answers(storey(), false);
        for (Named named : ILLEGAL_STATES) {
            unchanged(named, dueBehindRun, due);
        }
        for (Bounds b : BOUNDS) {
            for (int n : Storeys.outside(b.least, b.most)) {
                unchanged(new Named(b.name + " " + n, s -> b.call.make(s, n)), dueBehindRun, due);
            }
        }
        for (Named named : new Named[] {new Named("told", s -> s.told(0, 0)), new Named("at", s -> s.at(0, 0, 0)),
            new Named("through", s -> s.through(0, 0)), new Named("left", s -> s.left(0))}) {
            EscapeCells x = storey();
            check.illegalState(named.name + " without a run", () -> named.call.make(x));
            check.holds(named.name + " makes none", answers(x, false).equals(due));
        }
    }

    private static void unchanged(Named refused, String dueBehindRun, String due) {
        EscapeCells ran = ranStorey();
        check.holds(refused.name + " is refused", Check.thrownBy(() -> refused.call.make(ran)) != 0);
        check.holds(refused.name + " changes nothing behind a run", answers(ran, true).equals(dueBehindRun));
        EscapeCells fresh = storey();
        Check.thrownBy(() -> refused.call.make(fresh));
        check.holds(refused.name + " changes nothing without a run", answers(fresh, false).equals(due));
    }

    /** All that can be asked, then a new run, then all that is told only when it is changed. */
    private static String answers(EscapeCells x, boolean ran) {
        List<Integer> all = new ArrayList<>();
        if (ran) {
            addRun(all, x);
        }
        all.add(x.run());
        addRun(all, x);
        all.add(x.ways());
        all.add(x.turns());
        all.add(x.signs());
        for (int cell = 0; cell < WIDTH * HEIGHT; cell++) {
            for (int exit = NONE; exit < 2; exit++) {
                all.add(x.walk(cell % WIDTH, cell / WIDTH, exit));
            }
        }
        for (int cell = 0; cell < WIDTH * HEIGHT; cell++) {
            all.add(x.smoke(cell % WIDTH, cell / WIDTH, NONE));
        }
        for (int person = 0; person < 3; person++) {
            all.add(x.habit(person, NONE));
        }
        all.add(x.person(3, 2, 1, 0));
        all.add(x.exit(2, 2, 1));
        all.add(x.run());
        addRun(all, x);
        return all.toString();
    }

    private static void addRun(List<Integer> all, EscapeCells x) {
        for (int person = 0; person < 3; person++) {
            for (int what = 0; what < 4; what++) {
                all.add(x.told(person, what));
            }
            for (int second = 0; second < 8; second++) {
                all.add(Storeys.place(x, person, second));
            }
        }
        for (int cell = 0; cell < WIDTH * HEIGHT; cell++) {
            all.add(x.through(cell % WIDTH, cell / WIDTH));
        }
        all.add(x.left(3));
    }

    private static void noRun() {
        for (Named change : CHANGES) {
            EscapeCells x = ranStorey();
            check.throwsNothing(change.name, () -> change.call.make(x));
            refusesQuestions("behind " + change.name, x);
            x.run();
            check.throwsNothing("but behind a new run", () -> x.left(0));
        }
        EscapeCells x = storey();
        refusesQuestions("before any run", x);
        x.run();
        x.ways();
        x.walk(0, 0, NONE);
        x.turns();
        x.signs();
        x.told(0, 0);
        x.at(0, 0, 0);
        x.through(0, 0);
        check.throwsNothing("questions leave the run", () -> x.left(0));
    }

    private static void refusesQuestions(String when, EscapeCells x) {
        check.illegalState("told " + when, () -> x.told(0, 0));
        check.illegalState("at " + when, () -> x.at(0, 0, 0));
        check.illegalState("through " + when, () -> x.through(0, 0));
        check.illegalState("left " + when, () -> x.left(0));
    }
}
