/** Storeys, places and numbers that more than one test needs. */
final class Storeys {
    static final int NONE = EscapeCells.NONE;

    private Storeys() {
    }

    /** A storey with one row of cells; the other row is walls. */
    static EscapeCells corridor(int length) {
        EscapeCells x = new EscapeCells(length, 2);
        for (int i = 0; i < length; i++) {
            x.wall(i, 1, true);
        }
        return x;
    }

    /** A corridor with exits of a rate in the cells (x, 0). */
    static EscapeCells corridor(int length, int rate, int... exits) {
        EscapeCells x = corridor(length);
        for (int i : exits) {
            x.exit(i, 0, rate);
        }
        return x;
    }

    /** A storey as it is drawn, row by row: '#' a wall, 'E' an exit of rate 1, all else free. */
    static EscapeCells drawn(String... rows) {
        EscapeCells x = new EscapeCells(rows[0].length(), rows.length);
        for (int y = 0; y < rows.length; y++) {
            for (int i = 0; i < rows[y].length(); i++) {
                if (rows[y].charAt(i) == '#') {
                    x.wall(i, y, true);
                } else if (rows[y].charAt(i) == 'E') {
                    x.exit(i, y, 1);
                }
            }
        }
        return x;
    }

    /** Where a person is behind a second, as x * 100 + y; NONE if it is in no cell. */
    static int place(EscapeCells storey, int person, int second) {
        int x = storey.at(person, second, 0);
        int y = storey.at(person, second, 1);
        if (x == NONE && y == NONE) {
            return NONE;
        }
        return x == NONE || y == NONE ? Integer.MIN_VALUE : x * 100 + y;
    }

    /** Numbers that are not least .. most: those beside it, and the ends of int. */
    static int[] outside(int least, int most) {
        return new int[] {least - 1, most + 1, Integer.MIN_VALUE, Integer.MAX_VALUE};
    }
}
