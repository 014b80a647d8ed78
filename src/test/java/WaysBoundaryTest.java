/** The sentences that name a boundary case of ways and signs: promises 8, 9, 15, 16 and the terms for them. */
public final class WaysBoundaryTest {
    private static final int NONE = EscapeCells.NONE;
    private static final Check check = new Check("WaysBoundaryTest");

    public static void main(String[] args) {
        numbers();
        waysAndWalk();
        turns();
        signs();
        check.finish();
    }

    private static void numbers() {
        check.sentence("WALKING NUMBERS, of cells that are no walls", () -> {
            EscapeCells x = new EscapeCells(2, 2);
            x.exit(1, 1, 1);
            for (int i = 0; i < 4; i++) {
                x.wall(i % 2, i / 2, true);
            }
            check.same("all cells are walls: ways", x.ways(), 0);
            check.same("turns", x.turns(), 0);
            check.same("signs", x.signs(), 0);
            check.same("walk of a wall", x.walk(0, 0, NONE), NONE);
            check.same("walk of a wall that was the exit", x.walk(1, 1, 0), NONE);
            check.same("run", x.run(), 0);
            check.illegalState("nobody can come", () -> x.person(0, 0, 1, 0));
        });
        check.sentence("0 of an exit", () -> {
            EscapeCells x = new EscapeCells(2, 2);
            for (int i = 0; i < 4; i++) {
                x.exit(i % 2, i / 2, 1);
            }
            check.same("all cells are exits: ways", x.ways(), 4);
            check.same("turns", x.turns(), 0);
            check.same("signs", x.signs(), 0);
            for (int i = 0; i < 4; i++) {
                check.same("exit " + i, x.walk(i % 2, i / 2, NONE), 0);
                check.same("exit " + i + " to itself", x.walk(i % 2, i / 2, i), 0);
                check.same("exit " + i + " to the one across", x.walk(i % 2, i / 2, 3 - i), 2);
            }
        });
        check.sentence("of others 1 more than the least one of the cells beside it", () -> {
            EscapeCells x = Storeys.corridor(24, 1, 0, 23);
            for (int i = 0; i < 24; i++) {
                check.same("cell " + i, x.walk(i, 0, NONE), Math.min(i, 23 - i));
            }
            check.same("through all rows, to and fro", snake().walk(0, 0, NONE), 298);
        });
        check.sentence("those from which no exit can be reached have none.", () -> {
            EscapeCells x = Storeys.corridor(5, 1, 0);
            x.wall(2, 0, true);
            check.same("before the wall", x.walk(1, 0, NONE), 1);
            check.same("behind it", x.walk(3, 0, NONE), NONE);
            check.same("the last cell", x.walk(4, 0, 0), NONE);
            check.same("ways", x.ways(), 2);
            x.wall(2, 0, false);
            check.same("when it is gone", x.walk(4, 0, 0), 4);
        });
        check.sentence("(They do not ask for smoke.)", () -> {
            EscapeCells x = Storeys.corridor(3, 1, 0);
            x.smoke(0, 0, 0);
            x.smoke(1, 0, 0);
            x.smoke(2, 0, 0);
            check.same("ways", x.ways(), 3);
            check.same("walk", x.walk(2, 0, NONE), 2);
            check.same("walk to exit 0", x.walk(2, 0, 0), 2);
            x.run();
            check.same("nor behind a run", x.walk(2, 0, NONE), 2);
        });
        check.sentence("which go to that exit alone, through other exits, too.", () -> {
            EscapeCells x = Storeys.corridor(8, 1, 0, 1, 2, 3, 4, 5, 6, 7);
            for (int i = 0; i < 8; i++) {
                check.same("cell " + i + " to exit 0", x.walk(i, 0, 0), i);
                check.same("cell " + i + " to exit 7", x.walk(i, 0, 7), 7 - i);
            }
        });
    }

    /** A long way made by walls: to and fro through every second row, from (0, 0) to an exit at the other end. */
    private static EscapeCells snake() {
        EscapeCells x = new EscapeCells(24, 24);
        for (int y = 1; y < 24; y += 2) {
            int gap = y == 23 ? NONE : y % 4 == 1 ? 23 : 0;
            for (int i = 0; i < 24; i++) {
                if (i != gap) {
                    x.wall(i, y, true);
                }
            }
        }
        // 12 rows of 24 cells and the 11 gaps between them are 299 cells; row 22 is walked to the left.
        x.exit(0, 22, 1);
        return x;
    }

    private static void waysAndWalk() {
        check.sentence("How many cells have a walking number.", () -> {
            EscapeCells x = new EscapeCells(24, 24);
            check.same("none without an exit", x.ways(), 0);
            x.exit(0, 0, 1);
            check.same("all", x.ways(), 576);
            x.wall(23, 23, true);
            check.same("all but a wall", x.ways(), 575);
            x.wall(22, 23, true);
            x.wall(23, 22, true);
            x.wall(23, 23, false);
            check.same("all but what is walled in", x.ways(), 573);
            x.wall(0, 0, true);
            check.same("none when the exit is a wall", x.ways(), 0);
            x.exit(23, 23, 1);
            check.same("an exit that is walled in alone", x.ways(), 1);
            x.exit(12, 12, 1);
            check.same("those of either exit", x.ways(), 573);
        });
        check.sentence("A cell's walking number, to any exit (NONE) or to that one; NONE without one. "
            + "Illegal argument.", () -> {
                EscapeCells x = new EscapeCells(4, 4);
                check.same("no exits, to any", x.walk(0, 0, NONE), NONE);
                check.illegalArgument("no exits, to exit 0", () -> x.walk(0, 0, 0));
                for (int i = 0; i < 8; i++) {
                    x.exit(i % 4, i / 4, 1);
                    int next = i + 1;
                    check.same("to exit " + i, x.walk(i % 4, 3, i), 3 - i / 4);
                    check.illegalArgument("to exit " + next, () -> x.walk(0, 0, next));
                }
                check.same("to any", x.walk(0, 3, NONE), 2);
                for (int exit : Storeys.outside(NONE, 7)) {
                    check.illegalArgument("to exit " + exit, () -> x.walk(0, 0, exit));
                }
                x.wall(3, 1, true);
                check.same("to exit 7, which is a wall", x.walk(3, 3, 7), NONE);
                check.illegalArgument("to exit 8 still", () -> x.walk(3, 3, 8));
            });
    }

    private static void turns() {
        check.sentence("a cell is a TURN if it has a walking number, is no exit", () -> {
            EscapeCells x = Storeys.corridor(3, 1, 0, 2);
            check.same("a cell between two exits", x.turns(), 1);
            x.exit(1, 0, 1);
            check.same("an exit between two exits", x.turns(), 0);
            EscapeCells none = new EscapeCells(24, 24);
            check.same("no exit, no turns", none.turns(), 0);
            check.same("nor signs", none.signs(), 0);
        });
        check.sentence("has two cells or more beside it whose number is less", () -> {
            check.same("one cell with a lesser number", Storeys.corridor(5, 1, 0).turns(), 0);
            check.same("one lesser, one equal", Storeys.corridor(6, 1, 0, 5).turns(), 0);
            check.same("two lesser ones", Storeys.corridor(5, 1, 0, 4).turns(), 1);
            for (int exits = 0; exits <= 4; exits++) {
                EscapeCells x = cross(exits);
                check.same("a cell with " + exits + " exits beside it", x.turns(), exits >= 2 ? 1 : 0);
            }
        });
        check.sentence("How many turns there are.", () -> {
            EscapeCells x = new EscapeCells(24, 24);
            x.exit(0, 0, 1);
            check.same("all but the exit's row and column", x.turns(), 23 * 23);
            for (int corner = 0; corner < 4; corner++) {
                EscapeCells least = new EscapeCells(2, 2);
                least.exit(corner % 2, corner / 2, 1);
                check.same("the corner across from exit " + corner, least.turns(), 1);
                check.same("its sign", least.signs(), 1);
            }
        });
    }

    /** A cell with four beside it, of which so many are exits; all others are walls. */
    private static EscapeCells cross(int exits) {
        EscapeCells x = new EscapeCells(3, 3);
        int made = 0;
        for (int i = 0; i < 9; i++) {
            if (i % 2 == 0 && i != 4) {
                x.wall(i % 3, i / 3, true);
            } else if (i != 4 && made < exits) {
                x.exit(i % 3, i / 3, 1);
                made++;
            }
        }
        return x;
    }

    private static void signs() {
        check.sentence("A sign in a cell SHOWS it, and all cells that are 2 steps or less away", () -> {
            check.same("turn 1", Storeys.corridor(3, 1, 0, 2).signs(), 1);
            check.same("turns 1 and 3", Storeys.corridor(5, 1, 0, 2, 4).signs(), 1);
            check.same("turns 1, 3 and 5: 2 steps to both ends", Storeys.corridor(7, 1, 0, 2, 4, 6).signs(), 1);
            check.same("turns 1 and 6: 3 steps to one of them", Storeys.corridor(8, 1, 0, 2, 5, 7).signs(), 2);
            check.same("turns 1, 3, 5 and 7", Storeys.corridor(9, 1, 0, 2, 4, 6, 8).signs(), 2);
        });
        check.sentence("(by cells beside, through cells that are no walls)", () -> {
            EscapeCells x = twoCorridors();
            check.same("turns on both sides of a wall", x.turns(), 2);
            check.same("a sign each", x.signs(), 2);
            x.wall(2, 1, false);
            check.same("the cell that was a wall is a turn, too", x.turns(), 3);
            check.same("and a sign in it shows all", x.signs(), 1);
        });
        check.sentence("LEAST SIGNS are as few cells with walking numbers as can show all turns.",
            WaysBoundaryTest::leastSigns);
        check.sentence("How many least signs there are; NONE if there are more than 12 turns.", () -> {
            check.same("no turns", Storeys.corridor(5, 1, 0).signs(), 0);
            // Of two rows with an exit in a corner, all cells of the other row but the exit's neighbour are turns.
            int[] due = {1, 1, 1, 1, 1, 2, 2, 2, 2, 2, 3, 3, NONE, NONE};
            for (int turns = 1; turns <= due.length; turns++) {
                EscapeCells x = new EscapeCells(turns + 1, 2);
                x.exit(0, 0, 1);
                check.same("turns", x.turns(), turns);
                check.same("signs for " + turns + " turns", x.signs(), due[turns - 1]);
            }
            EscapeCells most = new EscapeCells(24, 24);
            most.exit(0, 0, 1);
            check.same("as many turns as there can be", most.signs(), NONE);
            most.wall(0, 0, true);
            check.same("and none again", most.signs(), 0);
        });
    }

    private static void leastSigns() {
        // Turns 1 and 4: just the cells 2 and 3, both of them exits, are near enough to both.
        check.same("a sign may stand in an exit", Storeys.corridor(6, 1, 0, 2, 3, 5).signs(), 1);
        // Two blocks of 2 x 3 turns. A sign between them shows 8, but leaves 4 that need two more.
        EscapeCells blocks = new EscapeCells(5, 4);
        blocks.exit(2, 3, 1);
        check.same("turns of two blocks", blocks.turns(), 12);
        check.same("a sign for each, though one in the middle shows more", blocks.signs(), 2);
        check.same("turns apart", twelveApart().turns(), 12);
        check.same("as many signs as turns", twelveApart().signs(), 12);
        for (int corner = 0; corner < 4; corner++) {
            check.same("a sign in corner " + corner, bend(corner % 2 * 3, corner / 2 * 3).signs(), 1);
        }
        // The turns are (3, 0), (4, 0), (1, 2), (2, 2), (4, 3). Just (3, 2) is near enough to the two that are
        // farthest apart, and it shows all but (4, 0); every cell near enough to that one shows (3, 0), too.
        EscapeCells shared = Storeys.drawn(".#...", "E....", "#...#", "E.#..", "..E..");
        check.same("turns of which some are shown twice", shared.turns(), 5);
        check.same("least signs that both show a turn", shared.signs(), 2);
        EscapeCells changed = Storeys.corridor(8, 1, 0, 2, 4, 6);
        check.same("turns 1, 3 and 5", changed.signs(), 1);
        for (int i = 4; i <= 6; i += 2) {
            changed.wall(i, 0, true);
            changed.wall(i, 0, false);
            changed.exit(i + 1, 0, 1);
        }
        check.same("turns 1 and 6 behind these", changed.signs(), 2);
    }

    /** A corridor with six side rooms of 2 x 2 cells at either hand; in each room one cell is a turn. */
    private static EscapeCells twelveApart() {
        String[] rows = {".......", "..#.#..", "###.###"};
        EscapeCells x = new EscapeCells(7, 18);
        for (int y = 0; y < 18; y++) {
            for (int i = 0; i < 7; i++) {
                if (rows[y % 3].charAt(i) == '#') {
                    x.wall(i, y, true);
                }
            }
        }
        x.exit(3, 17, 1);
        return x;
    }

    /** Two arms from a corner, each with a turn 2 steps from it: nothing but the corner is near enough to both. */
    private static EscapeCells bend(int right, int down) {
        EscapeCells x = new EscapeCells(4, 4);
        for (int i = 0; i < 16; i++) {
            if (i % 4 != right && i / 4 != down) {
                x.wall(i % 4, i / 4, true);
            }
        }
        int stepX = right == 0 ? 1 : -1;
        int stepY = down == 0 ? 1 : -1;
        for (int far = 1; far <= 3; far += 2) {
            x.exit(right + far * stepX, down, 1);
            x.exit(right, down + far * stepY, 1);
        }
        return x;
    }

    private static EscapeCells twoCorridors() {
        EscapeCells x = new EscapeCells(5, 3);
        for (int i = 0; i < 5; i++) {
            x.wall(i, 1, true);
        }
        for (int y = 0; y < 3; y += 2) {
            x.exit(0, y, 1);
            x.exit(4, y, 1);
        }
        return x;
    }
}
