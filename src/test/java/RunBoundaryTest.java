/** The sentences of the document that name a boundary case of a run: promises 10 to 14 and the terms for them. */
public final class RunBoundaryTest {
    private static final int NONE = EscapeCells.NONE;
    private static final int WAITING = 0;
    private static final int OUT = 1;
    private static final int CAUGHT = 2;
    private static final Check check = new Check("RunBoundaryTest");

    public static void main(String[] args) {
        begin();
        smoke();
        mayStep();
        order();
        looks();
        entering();
        out();
        over();
        told();
        at();
        through();
        left();
        check.finish();
    }

    /** A corridor with exit 0 at its left end and one person. */
    private static EscapeCells walker(int length, int from, int pace, int delay) {
        EscapeCells x = Storeys.corridor(length, 1, 0);
        x.person(from, 0, pace, delay);
        return x;
    }

    private static void toldAll(EscapeCells x, int person, int state, int second, int exit, int steps) {
        int[] due = {state, second, exit, steps};
        for (int what = 0; what < 4; what++) {
            check.same("told(" + person + ", " + what + ")", x.told(person, what), due[what]);
        }
    }

    private static void begin() {
        check.sentence("A RUN begins with second 0: all persons are where they came, WAITING.", () -> {
            EscapeCells x = walker(3, 2, 1, 0);
            check.same("run", x.run(), 2);
            check.same("at first", Storeys.place(x, 0, 0), 200);
            check.same("one is left at first", x.left(0), 1);
            check.same("a second run, from the same cell", x.run(), 2);
            check.same("at first in that run", Storeys.place(x, 0, 0), 200);
            check.same("one came into the exit in it", x.through(0, 0), 1);
            x.smoke(2, 0, 0);
            check.same("a third run", x.run(), 1);
            check.same("barred from second 0 on: it is there at first", Storeys.place(x, 0, 0), 200);
            check.same("left at first", x.left(0), 1);
            x.smoke(2, 0, NONE);
            check.same("a fourth run", x.run(), 2);
            toldAll(x, 0, OUT, 2, 0, 2);
        });
    }

    private static void smoke() {
        check.sentence("Smoke BARS a cell from a second on.", () -> {
            // It steps in the seconds 2 and 4; until then it stands in cell 2, then in cell 1.
            int[][] due = {
                {2, 0, CAUGHT, 1}, {2, 1, CAUGHT, 1}, {2, 2, CAUGHT, 2}, {2, 3, OUT, 4}, {2, 3600, OUT, 4},
                {1, 0, WAITING, NONE}, {1, 1, WAITING, NONE}, {1, 2, WAITING, NONE}, {1, 3, CAUGHT, 3},
                {1, 4, CAUGHT, 4}, {1, 5, OUT, 4},
                {0, 0, WAITING, NONE}, {0, 3, WAITING, NONE}, {0, 4, WAITING, NONE}, {0, 5, OUT, 4}};
            for (int[] row : due) {
                EscapeCells x = walker(3, 2, 2, 0);
                x.smoke(row[0], 0, row[1]);
                x.run();
                String name = "smoke in cell " + row[0] + " from " + row[1];
                check.same(name + ": state", x.told(0, 0), row[2]);
                check.same(name + ": since", x.told(0, 1), row[3]);
            }
        });
        check.sentence("First, those WAITING in a cell that is barred from t or before on are CAUGHT "
            + "(and are in no cell any more).", () -> {
                EscapeCells x = walker(3, 1, 1, 0);
                x.person(2, 0, 1, 0);
                x.smoke(1, 0, 1);
                check.same("run", x.run(), 3600);
                toldAll(x, 0, CAUGHT, 1, NONE, 0);
                check.same("in no cell", Storeys.place(x, 0, 1), NONE);
                check.same("in it at first", Storeys.place(x, 0, 0), 100);
                check.same("one is left", x.left(1), 1);
                check.same("who can't go into the smoke", Storeys.place(x, 1, 3600), 200);
                x.smoke(2, 0, 1);
                check.same("both in the same second", x.run(), 1);
                check.same("nobody is left", x.left(1), 0);
            });
        check.sentence("it is not barred from t or before on", () -> {
            // The upper way is looked at first; from its second on the lower one is taken.
            int[] dueRow = {1, 1, 0, 0};
            for (int second = 0; second < 4; second++) {
                EscapeCells x = new EscapeCells(3, 2);
                x.exit(2, 1, 1);
                x.person(0, 0, 1, 0);
                x.smoke(1, 0, second);
                x.run();
                check.same("row behind second 1, smoke from " + second, x.at(0, 1, 1), dueRow[second]);
                check.same("state", x.told(0, 0), second == 2 ? CAUGHT : OUT);
            }
        });
    }

    private static void mayStep() {
        check.sentence("t is above the DELAY", () -> {
            for (int delay : new int[] {0, 1, 599, 600}) {
                EscapeCells x = walker(2, 1, 1, delay);
                check.same("run with delay " + delay, x.run(), delay + 1);
                check.same("there behind its delay", Storeys.place(x, 0, delay), 100);
                check.same("gone behind the next second", Storeys.place(x, 0, delay + 1), NONE);
            }
        });
        check.sentence("and the latest step of theirs is PACE seconds ago or more", () -> {
            for (int pace = 1; pace <= 5; pace++) {
                EscapeCells x = walker(4, 3, pace, 0);
                check.same("run with pace " + pace, x.run(), 3 * pace);
                check.same("before its second step", Storeys.place(x, 0, 2 * pace - 1), 200);
                check.same("behind it", Storeys.place(x, 0, 2 * pace), 100);
            }
            // Held up for longer than its pace by one who goes in second 10, it follows at once.
            EscapeCells held = Storeys.corridor(4, 1, 0);
            held.person(1, 0, 1, 9);
            held.person(3, 0, 3, 0);
            held.run();
            check.same("beside the other in second 3", Storeys.place(held, 1, 3), 200);
            check.same("there in second 9", Storeys.place(held, 1, 9), 200);
            check.same("but not in second 10", Storeys.place(held, 1, 10), 100);
            check.same("its pace counts from the latest step", held.told(1, 1), 13);
        });
        check.sentence("one that has not stepped may if t is DELAY + PACE or more", () -> {
            for (int pace = 1; pace <= 5; pace++) {
                for (int delay : new int[] {0, 1, 600}) {
                    EscapeCells x = walker(3, 2, pace, delay);
                    String name = "pace " + pace + ", delay " + delay;
                    check.same(name + ": run", x.run(), delay + 2 * pace);
                    check.same(name + ": not yet", Storeys.place(x, 0, delay + pace - 1), 200);
                    check.same(name + ": now", Storeys.place(x, 0, delay + pace), 100);
                }
            }
        });
    }

    private static void order() {
        check.sentence("the least first, those without a number last; of these by their own numbers.", () -> {
            EscapeCells nearer = Storeys.corridor(4, 1, 0);
            nearer.person(3, 0, 1, 0);
            nearer.person(2, 0, 1, 0);
            nearer.person(1, 0, 1, 0);
            check.same("each into the cell that the one before has just left", nearer.run(), 3);
            for (int person = 0; person < 3; person++) {
                check.same("out", nearer.told(person, 1), 3 - person);
            }
            EscapeCells equal = Storeys.corridor(3, 1, 1);
            equal.person(2, 0, 1, 0);
            equal.person(0, 0, 1, 0);
            equal.run();
            check.same("of two with the same number the first", equal.told(0, 1), 1);
            check.same("and then the other", equal.told(1, 1), 2);
            EscapeCells shut = Storeys.corridor(4, 1, 0);
            shut.wall(2, 0, true);
            shut.person(3, 0, 1, 0);
            shut.person(1, 0, 1, 0);
            check.same("one without a number waits to the end", shut.run(), 3600);
            toldAll(shut, 0, WAITING, NONE, NONE, 0);
            toldAll(shut, 1, OUT, 1, 0, 1);
        });
        check.sentence("(of the exit of their HABIT, if they have one and it can be reached from there; "
            + "else of all exits)", RunBoundaryTest::orderByHabit);
    }

    private static void orderByHabit() {
        // Both want to go into cell 2: one by its number 1 of all exits, one by its number 3 of exit 0.
        EscapeCells x = Storeys.corridor(5, 1, 0, 2);
        x.person(3, 0, 1, 0);
        x.person(1, 0, 1, 0);
        x.run();
        check.same("without habits the first of two with number 1", x.told(0, 1), 1);
        check.same("makes the other go to exit 0's side", x.told(1, 2), 0);
        x.exit(4, 0, 1);
        x.habit(1, 1);
        x.habit(0, 0);
        x.run();
        check.same("by its habit the other is nearer", x.told(1, 1), 1);
        toldAll(x, 0, OUT, 4, 0, 3);
        x.wall(0, 0, true);
        x.run();
        check.same("a habit that leads nowhere: all exits, x + 1 first", x.told(0, 2), 2);
        EscapeCells cut = Storeys.corridor(6, 1, 0, 5);
        cut.person(2, 0, 1, 0);
        cut.habit(0, 1);
        cut.run();
        toldAll(cut, 0, OUT, 3, 1, 3);
        cut.wall(4, 0, true);
        cut.run();
        toldAll(cut, 0, OUT, 2, 0, 2);
    }

    private static void looks() {
        check.sentence("in the order (x + 1, y), (x - 1, y), (x, y + 1), (x, y - 1)", () -> {
            // With exits on all four sides; each in turn becomes a wall.
            int[][] sides = {{2, 1}, {0, 1}, {1, 2}, {1, 0}};
            EscapeCells x = new EscapeCells(3, 3);
            for (int[] side : sides) {
                x.exit(side[0], side[1], 1);
            }
            x.person(1, 1, 1, 0);
            for (int exit = 0; exit < 4; exit++) {
                check.same("run", x.run(), 1);
                check.same("by exit", x.told(0, 2), exit);
                x.wall(sides[exit][0], sides[exit][1], true);
            }
            check.same("no exit is left", x.run(), 3600);
        });
        check.sentence("steps into the first one with a number (for the same exits) less than its own "
            + "that may be entered", () -> {
                EscapeCells equal = Storeys.corridor(6, 1, 0, 5);
                equal.person(2, 0, 1, 0);
                equal.run();
                check.same("an equal number, though looked at first, is not less", equal.told(0, 2), 0);
                EscapeCells own = Storeys.corridor(5, 1, 0, 4);
                own.person(3, 0, 1, 0);
                own.habit(0, 0);
                own.run();
                check.same("less for all exits, but greater for its own one", own.told(0, 2), 0);
                EscapeCells next = new EscapeCells(2, 2);
                next.exit(1, 1, 1);
                next.person(0, 0, 1, 0);
                next.person(1, 0, 1, 600);
                next.run();
                check.same("someone is in the first: the next one", Storeys.place(next, 0, 1), 1);
            });
        check.sentence("if none of these may, it stays.", () -> {
            EscapeCells x = new EscapeCells(3, 3);
            x.exit(0, 0, 1);
            x.person(1, 1, 1, 0);
            x.person(0, 1, 1, 10);
            x.person(1, 0, 1, 10);
            x.run();
            check.same("shut in for ten seconds, though greater numbers are free", Storeys.place(x, 0, 10), 101);
            check.same("the first step when one of the others has gone", Storeys.place(x, 0, 11), 1);
            toldAll(x, 0, OUT, 12, 0, 2);
            notOverAnother(1, 0);
            notOverAnother(-1, 0);
            notOverAnother(0, 1);
            notOverAnother(0, -1);
        });
    }

    /** In a row or column that ends with the storey, one stands before another who starts late. */
    private static void notOverAnother(int stepX, int stepY) {
        EscapeCells x = new EscapeCells(5, 5);
        int startX = stepX < 0 ? 4 : 4 * (1 - stepX);
        int startY = stepY < 0 ? 4 : 4 * (1 - stepY);
        for (int i = 0; i < 25; i++) {
            if (stepX == 0 ? i % 5 != startX : i / 5 != startY) {
                x.wall(i % 5, i / 5, true);
            }
        }
        x.exit(startX + 4 * stepX, startY + 4 * stepY, 1);
        x.person(startX, startY, 1, 0);
        x.person(startX + stepX, startY + stepY, 1, 600);
        check.same("run", x.run(), 604);
        check.same("it does not step over the other", Storeys.place(x, 0, 600), startX * 100 + startY);
    }

    private static void entering() {
        check.sentence("how many persons may come into it in a second", () -> {
            // Four round an exit: more than four can't come at once.
            int[] due = {4, 2, 2, 1, 1};
            for (int rate = 1; rate <= 5; rate++) {
                EscapeCells x = around(rate);
                check.same("run with rate " + rate, x.run(), due[rate - 1]);
                check.same("left behind second 1", x.left(1), Math.max(0, 4 - rate));
                check.same("through", x.through(1, 1), 4);
            }
        });
        check.sentence("(of an exit or a door) fewer came into it in this second than its rate", () -> {
            // Person 0 passes through exit 1 to its own; person 1 may come in only if the rate has room.
            for (int rate = 1; rate <= 2; rate++) {
                EscapeCells x = Storeys.corridor(5, 1, 0);
                x.exit(2, 0, rate);
                x.person(1, 0, 1, 0);
                x.person(3, 0, 1, 0);
                x.habit(1, 0);
                x.run();
                check.same("rate " + rate + ": one is out by it", x.told(0, 2), 1);
                check.same("rate " + rate + ": the other came in", x.told(1, 1), rate == 1 ? 4 : 3);
            }
            EscapeCells door = Storeys.corridor(5, 1, 0);
            door.door(1, 0, 1);
            for (int i = 1; i < 5; i++) {
                door.person(i, 0, 1, 0);
            }
            check.same("a door of rate 1 lets one through in each second", door.run(), 4);
            check.same("all but the one that was in it", door.through(1, 0), 3);
        });
        check.sentence("no one is in it", () -> {
            // One who goes by its habit stands in exit 1 from second 5 to 10 and keeps all others out.
            EscapeCells x = Storeys.corridor(5, 5, 0, 2);
            x.person(3, 0, 5, 0);
            x.person(4, 0, 1, 5);
            x.habit(0, 0);
            check.same("run", x.run(), 15);
            check.same("it stands in exit 1", Storeys.place(x, 0, 9), 200);
            check.same("the other waits beside it", Storeys.place(x, 1, 10), 300);
            toldAll(x, 1, OUT, 11, 1, 2);
            EscapeCells facing = Storeys.corridor(6, 1, 0, 5);
            facing.person(2, 0, 1, 0);
            facing.person(3, 0, 1, 0);
            facing.habit(0, 1);
            facing.habit(1, 0);
            check.same("two who want to pass each other can't", facing.run(), 3600);
            toldAll(facing, 0, WAITING, NONE, NONE, 0);
            toldAll(facing, 1, WAITING, NONE, NONE, 0);
        });
    }

    private static EscapeCells around(int rate) {
        EscapeCells x = new EscapeCells(3, 3);
        x.exit(1, 1, rate);
        x.person(1, 0, 1, 0);
        x.person(0, 1, 1, 0);
        x.person(2, 1, 1, 0);
        x.person(1, 2, 1, 0);
        return x;
    }

    private static void out() {
        check.sentence("and perhaps a HABIT, an exit.", RunBoundaryTest::habitsOfAllExits);
        check.sentence("One that steps into an exit (that of its habit, if it goes by that; any, otherwise) is OUT, "
            + "and is in no cell any more.", () -> {
                EscapeCells x = Storeys.corridor(4, 1, 0, 1);
                x.person(2, 0, 1, 0);
                check.same("any", x.run(), 1);
                toldAll(x, 0, OUT, 1, 1, 1);
                check.same("in no cell", Storeys.place(x, 0, 1), NONE);
                x.habit(0, 0);
                check.same("that of its habit", x.run(), 2);
                toldAll(x, 0, OUT, 2, 0, 2);
                check.same("in the other exit", Storeys.place(x, 0, 1), 100);
                check.same("not out there", x.left(1), 1);
                check.same("one came into the other exit", x.through(1, 0), 1);
                x.smoke(1, 0, 2);
                check.same("caught in the other exit", x.run(), 2);
                toldAll(x, 0, CAUGHT, 2, NONE, 1);
                x.smoke(1, 0, NONE);
                x.wall(0, 0, true);
                check.same("any, if it can't go by that", x.run(), 1);
                check.same("by exit", x.told(0, 2), 1);
                check.same("an exit that someone went into is empty for the next", around(4).run(), 1);
            });
    }

    private static void habitsOfAllExits() {
        EscapeCells x = new EscapeCells(8, 3);
        for (int i = 0; i < 8; i++) {
            x.exit(i, 0, 1);
        }
        x.person(0, 2, 1, 0);
        check.same("none: to the nearest", x.run(), 2);
        for (int i = 0; i < 8; i++) {
            x.habit(0, i);
            check.same("run to exit " + i, x.run(), 2 + i);
            check.same("by the exit that it knows", x.told(0, 2), i);
        }
    }

    private static void over() {
        check.sentence("The run is over behind the second in which the last one is OUT or CAUGHT, "
            + "or that with number 3600.", () -> {
                EscapeCells x = walker(4, 1, 1, 0);
                check.same("the only one is out in second 1", x.run(), 1);
                x.person(3, 0, 1, 0);
                check.same("the last one is out in second 3", x.run(), 3);
                x.smoke(3, 0, 0);
                check.same("or caught in second 1", x.run(), 1);
                x.smoke(3, 0, NONE);
                x.wall(2, 0, true);
                check.same("or waits on", x.run(), 3600);
                toldAll(x, 1, WAITING, NONE, NONE, 0);
                for (int second : new int[] {1, 2, 3598, 3599, 3600}) {
                    x.smoke(3, 0, second);
                    check.same("caught in second " + second, x.run(), second);
                    toldAll(x, 1, CAUGHT, second, NONE, 0);
                }
                EscapeCells two = Storeys.corridor(2);
                two.person(0, 0, 1, 0);
                two.person(1, 0, 1, 0);
                two.smoke(0, 0, 3599);
                check.same("one is caught in second 3599, one waits on", two.run(), 3600);
                two.smoke(1, 0, 3600);
                check.same("or is caught in the last second", two.run(), 3600);
                toldAll(two, 1, CAUGHT, 3600, NONE, 0);
            });
        check.sentence("A run: its last second, 0 if there are no persons.", () -> {
            EscapeCells x = Storeys.corridor(4, 1, 0);
            check.same("no persons", x.run(), 0);
            check.same("there was a run", x.left(0), 0);
            check.same("up to its last second", x.left(3600), 0);
            check.same("nobody came", x.through(0, 0), 0);
            EscapeCells most = new EscapeCells(24, 24);
            most.exit(23, 23, 1);
            most.person(0, 0, 5, 600);
            check.same("as late, as slow and as far as can be without walls", most.run(), 600 + 46 * 5);
        });
    }

    private static void told() {
        check.sentence("what = 0: 0 WAITING, 1 OUT, 2 CAUGHT; 1: the second in which it was so, NONE if it is WAITING; "
            + "2: by which exit, NONE if it is not OUT; 3: how many steps it made.", () -> {
                EscapeCells x = Storeys.corridor(8, 1, 0, 7);
                x.wall(4, 0, true);
                x.person(2, 0, 1, 0);
                x.person(3, 0, 1, 600);
                x.person(5, 0, 1, 0);
                x.person(6, 0, 1, 0);
                x.smoke(3, 0, 9);
                x.smoke(7, 0, 2);
                check.same("run", x.run(), 3600);
                toldAll(x, 0, OUT, 2, 0, 2);
                toldAll(x, 1, CAUGHT, 9, NONE, 0);
                toldAll(x, 2, WAITING, NONE, NONE, 1);
                toldAll(x, 3, OUT, 1, 1, 1);
            });
        check.sentence("Of a person in the latest run", () -> {
            EscapeCells x = walker(3, 1, 1, 0);
            check.illegalState("no run", () -> x.told(0, 0));
            x.run();
            for (int number : Storeys.outside(0, 3)) {
                check.illegalArgument("what " + number, () -> x.told(0, number));
            }
            for (int number : Storeys.outside(0, 0)) {
                check.illegalArgument("person " + number, () -> x.told(number, 0));
            }
            x.person(2, 0, 1, 0);
            check.illegalState("no run since the second one came", () -> x.told(1, 0));
            check.illegalState("nor for the first one", () -> x.told(0, 0));
            x.run();
            toldAll(x, 1, OUT, 2, 0, 2);
            check.illegalArgument("a third one", () -> x.told(2, 0));
        });
    }

    private static void at() {
        check.sentence("Where a person is behind a second of the latest run (0: at first; seconds behind its last one "
            + "are as that): x (axis 0) or y (1); NONE if it is in no cell.", () -> {
                EscapeCells x = new EscapeCells(24, 24);
                x.exit(21, 22, 1);
                x.person(23, 23, 1, 0);
                check.same("run", x.run(), 3);
                int[] due = {2323, 2223, 2123, NONE, NONE};
                for (int second = 0; second < due.length; second++) {
                    check.same("behind " + second, Storeys.place(x, 0, second), due[second]);
                }
                check.same("behind 3600", Storeys.place(x, 0, 3600), NONE);
                x.person(0, 0, 1, 600);
                x.smoke(0, 0, 5);
                check.same("run with another one", x.run(), 5);
                check.same("caught in the last second", Storeys.place(x, 1, 4), 0);
                check.same("behind the last one", Storeys.place(x, 1, 5), NONE);
                check.same("behind a later one", Storeys.place(x, 1, 6), NONE);
                x.smoke(0, 0, NONE);
                x.wall(21, 22, true);
                check.same("run without an exit", x.run(), 3600);
                check.same("waiting at the end", Storeys.place(x, 0, 3600), 2323);
            });
        check.sentence("Illegal argument: the second is not 0 .. 3600; illegal state: there was no run.", () -> {
            EscapeCells x = walker(3, 2, 1, 0);
            check.illegalState("no run", () -> x.at(0, 0, 0));
            x.run();
            check.same("second 0", x.at(0, 0, 0), 2);
            check.same("second 3600", x.at(0, 3600, 0), NONE);
            for (int second : Storeys.outside(0, 3600)) {
                check.illegalArgument("second " + second, () -> x.at(0, second, 0));
            }
            for (int axis : Storeys.outside(0, 1)) {
                check.illegalArgument("axis " + axis, () -> x.at(0, 0, axis));
            }
            for (int person : Storeys.outside(0, 0)) {
                check.illegalArgument("person " + person, () -> x.at(person, 0, 0));
            }
        });
    }

    private static void through() {
        check.sentence("How many came into a cell in the latest run (those in it at first did not).", () -> {
            EscapeCells x = walker(4, 2, 1, 0);
            x.run();
            int[] one = {1, 1, 0, 0};
            for (int i = 0; i < 4; i++) {
                check.same("cell " + i, x.through(i, 0), one[i]);
                check.same("wall " + i, x.through(i, 1), 0);
            }
            x.person(3, 0, 1, 0);
            x.run();
            int[] two = {2, 2, 1, 0};
            for (int i = 0; i < 4; i++) {
                check.same("cell " + i + " with a second person", x.through(i, 0), two[i]);
            }
            x.smoke(2, 0, 0);
            x.smoke(3, 0, 0);
            x.run();
            check.same("none in a run in which all are caught at first", x.through(1, 0), 0);
        });
        check.sentence("Illegal argument; illegal state: there was no run.", () -> {
            EscapeCells x = new EscapeCells(4, 3);
            check.illegalState("no run", () -> x.through(3, 2));
            x.run();
            check.same("a run without persons", x.through(3, 2), 0);
            check.illegalArgument("x 4", () -> x.through(4, 2));
            check.illegalArgument("y 3", () -> x.through(3, 3));
        });
    }

    private static void left() {
        check.sentence("How many are in cells behind a second of the latest run.", () -> {
            EscapeCells x = Storeys.corridor(6, 1, 0);
            x.person(2, 0, 1, 0);
            x.person(3, 0, 1, 0);
            x.person(5, 0, 1, 600);
            x.smoke(5, 0, 5);
            check.same("run", x.run(), 5);
            int[] due = {3, 3, 2, 1, 1, 0, 0};
            for (int second = 0; second < due.length; second++) {
                check.same("behind " + second, x.left(second), due[second]);
            }
            check.same("behind 3600", x.left(3600), 0);
            x.smoke(5, 0, 3600);
            x.wall(4, 0, true);
            x.run();
            check.same("one is left to the last second but one", x.left(3599), 1);
            check.same("and caught in the last", x.left(3600), 0);
            x.smoke(5, 0, NONE);
            x.run();
            check.same("or waits", x.left(3600), 1);
        });
        check.sentence("Illegal argument; illegal state: as for at().", () -> {
            EscapeCells x = new EscapeCells(2, 2);
            check.illegalState("no run", () -> x.left(0));
            check.illegalState("no run, second 3600", () -> x.left(3600));
            x.run();
            check.same("second 0", x.left(0), 0);
            check.same("second 3600", x.left(3600), 0);
            for (int second : Storeys.outside(0, 3600)) {
                check.illegalArgument("second " + second, () -> x.left(second));
            }
        });
    }
}
