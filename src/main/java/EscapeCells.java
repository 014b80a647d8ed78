import java.util.Arrays;

/**
 * People leave a storey: least ways of cells to exits, a run second by second,
 * and the least signs that show all turns.
 */
public final class EscapeCells {
    /** There is none. */
    public static final int NONE = -1;

    private static final int LEAST_SIDE = 2;
    private static final int MOST_SIDE = 24;
    private static final int WAYS_ON = 4;
    private static final int MOST_EXITS = 8;
    private static final int MOST_RATE = 5;
    private static final int MOST_PERSONS = 60;
    private static final int MOST_PACE = 5;
    private static final int MOST_DELAY = 600;
    private static final int LAST_SECOND = 3600;
    private static final int MOST_TURNS = 12;
    // A turn is shown from at most 13 cells: itself, 4 that are 1 step away and 8 that are 2.
    private static final int MOST_SHOWINGS = 13 * MOST_TURNS;

    // The order in which a person looks at the cells beside its own.
    private static final int[] STEP_X = {1, -1, 0, 0};
    private static final int[] STEP_Y = {0, 0, 1, -1};

    private static final int FREE = 0;
    private static final int WALL = 1;
    private static final int EXIT = 2;
    private static final int DOOR = 3;

    private static final int WAITING = 0;
    private static final int OUT = 1;
    private static final int CAUGHT = 2;

    private static final int STATE = 0;
    private static final int SINCE = 1;
    private static final int EXIT_TAKEN = 2;
    private static final int STEPS = 3;

    private final Storey storey;
    private final Numbers numbers;
    private final People people;
    private final Flight flight;
    private final Signposts signposts;
    private boolean ran;

    public EscapeCells(int width, int height) {
        storey = new Storey(sideOf(width), sideOf(height));
        numbers = new Numbers(storey);
        people = new People(storey.cells);
        flight = new Flight(storey, numbers, people);
        signposts = new Signposts(storey);
        ran = false;
    }

    // ---- the storey

    public boolean wall(int x, int y, boolean on) throws IllegalArgumentException, IllegalStateException {
        int cell = storey.cellOf(x, y);
        if (cell == NONE) {
            throw new IllegalArgumentException("no such cell");
        }
        if (people.inCell[cell] != NONE) {
            throw new IllegalStateException("a person is in the cell");
        }
        boolean was = storey.isWall(cell);
        if (on) {
            storey.makeWall(cell);
        } else if (was) {
            storey.makeFree(cell);
        }
        if (was != on) {
            numbers.forget();
        }
        ran = false;
        return was;
    }

    public int exit(int x, int y, int rate) throws IllegalArgumentException, IllegalStateException {
        int cell = storey.cellOf(x, y);
        if (cell == NONE || !isWithin(rate, 1, MOST_RATE)) {
            throw new IllegalArgumentException("no such cell or rate");
        }
        if (storey.isWall(cell) || people.inCell[cell] != NONE) {
            throw new IllegalStateException("the cell is a wall or a person is in it");
        }
        if (!storey.isExit(cell)) {
            // An exit that is told again takes no new number, so only others are too many.
            if (storey.exits >= MOST_EXITS) {
                throw new IllegalStateException("there were as many exits as there may be");
            }
            storey.makeExit(cell);
            numbers.forget();
        }
        storey.rate[cell] = rate;
        ran = false;
        return storey.exitIn[cell];
    }

    public void door(int x, int y, int rate) throws IllegalArgumentException, IllegalStateException {
        int cell = storey.cellOf(x, y);
        if (cell == NONE || !isWithin(rate, 1, MOST_RATE)) {
            throw new IllegalArgumentException("no such cell or rate");
        }
        if (storey.isWall(cell) || storey.isExit(cell)) {
            throw new IllegalStateException("the cell is a wall or an exit");
        }
        storey.kind[cell] = DOOR;
        storey.rate[cell] = rate;
        ran = false;
    }

    public int smoke(int x, int y, int second) throws IllegalArgumentException {
        int cell = storey.cellOf(x, y);
        if (cell == NONE || !isWithin(second, NONE, LAST_SECOND)) {
            throw new IllegalArgumentException("no such cell or second");
        }
        int was = storey.barredFrom[cell];
        storey.barredFrom[cell] = second;
        ran = false;
        return was;
    }

    public int person(int x, int y, int pace, int delay) throws IllegalArgumentException, IllegalStateException {
        int cell = storey.cellOf(x, y);
        if (cell == NONE || !isWithin(pace, 1, MOST_PACE) || !isWithin(delay, 0, MOST_DELAY)) {
            throw new IllegalArgumentException("no such cell, pace or delay");
        }
        if (storey.isWall(cell) || storey.isExit(cell)) {
            throw new IllegalStateException("the cell is a wall or an exit");
        }
        if (people.inCell[cell] != NONE || people.count >= MOST_PERSONS) {
            throw new IllegalStateException("someone is in the cell, or there are too many");
        }
        ran = false;
        return people.add(cell, pace, delay);
    }

    public int habit(int person, int exit) throws IllegalArgumentException {
        if (!people.has(person) || !storey.isExitNumberOrNone(exit)) {
            throw new IllegalArgumentException("no such person or exit");
        }
        int was = people.habit[person];
        people.habit[person] = exit;
        ran = false;
        return was;
    }

    // ---- ways

    public int ways() {
        int[] row = numbers.rowTo(NONE);
        int count = 0;
        for (int cell = 0; cell < row.length; cell++) {
            if (row[cell] != NONE) {
                count++;
            }
        }
        return count;
    }

    public int walk(int x, int y, int exit) throws IllegalArgumentException {
        int cell = storey.cellOf(x, y);
        if (cell == NONE || !storey.isExitNumberOrNone(exit)) {
            throw new IllegalArgumentException("no such cell or exit");
        }
        return numbers.rowTo(exit)[cell];
    }

    // ---- a run

    public int run() {
        // Without a change since the latest run another one would go the same way.
        if (!ran) {
            numbers.findAll();
            flight.goAll();
            ran = true;
        }
        return flight.last;
    }

    public int told(int person, int what) throws IllegalArgumentException, IllegalStateException {
        if (!people.has(person) || !isWithin(what, STATE, STEPS)) {
            throw new IllegalArgumentException("no such person or question");
        }
        if (!ran) {
            throw new IllegalStateException("there was no run");
        }
        switch (what) {
            case STATE:
                return flight.state[person];
            case SINCE:
                return flight.since[person];
            case EXIT_TAKEN:
                return flight.exitTaken[person];
            default:
                return flight.steps[person];
        }
    }

    public int at(int person, int second, int axis) throws IllegalArgumentException, IllegalStateException {
        if (!people.has(person) || !isWithin(second, 0, LAST_SECOND) || !isWithin(axis, 0, 1)) {
            throw new IllegalArgumentException("no such person, second or axis");
        }
        if (!ran) {
            throw new IllegalStateException("there was no run");
        }
        int cell = flight.cellBehind(person, second);
        if (cell == NONE) {
            return NONE;
        }
        return axis == 0 ? storey.xOf[cell] : storey.yOf[cell];
    }

    public int through(int x, int y) throws IllegalArgumentException, IllegalStateException {
        int cell = storey.cellOf(x, y);
        if (cell == NONE) {
            throw new IllegalArgumentException("no such cell");
        }
        if (!ran) {
            throw new IllegalStateException("there was no run");
        }
        return flight.cameInAll[cell];
    }

    public int left(int second) throws IllegalArgumentException, IllegalStateException {
        if (!isWithin(second, 0, LAST_SECOND)) {
            throw new IllegalArgumentException("no such second");
        }
        if (!ran) {
            throw new IllegalStateException("there was no run");
        }
        return flight.countBehind(second);
    }

    // ---- signs

    public int turns() {
        return signposts.countTurns(numbers.rowTo(NONE));
    }

    public int signs() {
        return signposts.countLeast(numbers.rowTo(NONE));
    }

    private static int sideOf(int told) {
        return Math.max(LEAST_SIDE, Math.min(MOST_SIDE, told));
    }

    private static boolean isWithin(int number, int least, int most) {
        return number >= least && number <= most;
    }

    /** The cells: what each is, its rate, its smoke, and which cells are beside it. */
    private static final class Storey {
        final int width;
        final int height;
        final int cells;
        final int[] kind;
        final int[] rate;
        final int[] barredFrom;
        final int[] exitIn;
        // The cell of each exit by its number, NONE for one that a wall has taken.
        final int[] exitCell;
        final int[] xOf;
        final int[] yOf;
        private final int[] besides;
        int exits;

        Storey(int width, int height) {
            this.width = width;
            this.height = height;
            cells = width * height;
            kind = new int[cells];
            rate = new int[cells];
            barredFrom = new int[cells];
            exitIn = new int[cells];
            exitCell = new int[MOST_EXITS];
            xOf = new int[cells];
            yOf = new int[cells];
            besides = new int[cells * WAYS_ON];
            exits = 0;
            Arrays.fill(barredFrom, NONE);
            Arrays.fill(exitIn, NONE);
            Arrays.fill(exitCell, NONE);
            for (int y = 0; y < height; y++) {
                for (int x = 0; x < width; x++) {
                    layCell(x, y);
                }
            }
        }

        private void layCell(int x, int y) {
            int cell = y * width + x;
            xOf[cell] = x;
            yOf[cell] = y;
            for (int way = 0; way < WAYS_ON; way++) {
                besides[cell * WAYS_ON + way] = cellOf(x + STEP_X[way], y + STEP_Y[way]);
            }
        }

        /** The cell's index, NONE if it is not in the storey. */
        int cellOf(int x, int y) {
            return x < 0 || x >= width || y < 0 || y >= height ? NONE : y * width + x;
        }

        /** The cell that lies beside one, NONE for a wall and beyond the storey's edge. */
        int openBeside(int cell, int way) {
            int other = besides[cell * WAYS_ON + way];
            return other == NONE || isWall(other) ? NONE : other;
        }

        boolean isWall(int cell) {
            return kind[cell] == WALL;
        }

        boolean isExit(int cell) {
            return kind[cell] == EXIT;
        }

        boolean hasRate(int cell) {
            return kind[cell] == EXIT || kind[cell] == DOOR;
        }

        boolean isBarred(int cell, int second) {
            return barredFrom[cell] != NONE && barredFrom[cell] <= second;
        }

        boolean isExitNumberOrNone(int exit) {
            return exit >= NONE && exit < exits;
        }

        void makeWall(int cell) {
            int exit = exitIn[cell];
            if (exit != NONE) {
                exitCell[exit] = NONE;
                exitIn[cell] = NONE;
            }
            kind[cell] = WALL;
        }

        void makeFree(int cell) {
            kind[cell] = FREE;
        }

        /** The caller has seen that the cell is no exit and that one more may be. */
        void makeExit(int cell) {
            if (exits < MOST_EXITS) {
                kind[cell] = EXIT;
                exitIn[cell] = exits;
                exitCell[exits] = cell;
                exits++;
            }
        }
    }

    /** Walking numbers: a row for all exits and one for each, found when they are asked for. */
    private static final class Numbers {
        private final Storey storey;
        private final int[][] rows;
        private final boolean[] known;
        private final int[] queue;

        Numbers(Storey storey) {
            this.storey = storey;
            rows = new int[MOST_EXITS + 1][storey.cells];
            known = new boolean[MOST_EXITS + 1];
            queue = new int[storey.cells];
        }

        void forget() {
            for (int row = 0; row < known.length; row++) {
                known[row] = false;
            }
        }

        /** The numbers of all cells to an exit, NONE for any exit. */
        int[] rowTo(int exit) {
            int row = exit + 1;
            if (!known[row]) {
                find(exit, rows[row]);
                known[row] = true;
            }
            return rows[row];
        }

        void findAll() {
            for (int exit = NONE; exit < storey.exits; exit++) {
                rowTo(exit);
            }
        }

        /** The same as rowTo(), behind findAll() and without a change since. */
        int[] foundRowTo(int exit) {
            return rows[exit + 1];
        }

        private void find(int goal, int[] row) {
            Arrays.fill(row, NONE);
            int count = 0;
            for (int exit = 0; exit < storey.exits; exit++) {
                int cell = storey.exitCell[exit];
                if (cell != NONE && (goal == NONE || goal == exit)) {
                    row[cell] = 0;
                    queue[count] = cell;
                    count++;
                }
            }
            // A cell is queued only when it gets its number, so none is there twice.
            for (int next = 0; next < count && next < queue.length; next++) {
                count = spread(queue[next], row, count);
            }
        }

        private int spread(int cell, int[] row, int queued) {
            int count = queued;
            for (int way = 0; way < WAYS_ON; way++) {
                int other = storey.openBeside(cell, way);
                if (other != NONE && row[other] == NONE && count < queue.length) {
                    row[other] = row[cell] + 1;
                    queue[count] = other;
                    count++;
                }
            }
            return count;
        }
    }

    /** The persons as they came. */
    private static final class People {
        final int[] cell;
        final int[] pace;
        final int[] delay;
        final int[] habit;
        final int[] inCell;
        int count;

        People(int cells) {
            cell = new int[MOST_PERSONS];
            pace = new int[MOST_PERSONS];
            delay = new int[MOST_PERSONS];
            habit = new int[MOST_PERSONS];
            inCell = new int[cells];
            count = 0;
            Arrays.fill(inCell, NONE);
        }

        boolean has(int person) {
            return person >= 0 && person < count;
        }

        /** The caller has seen that there is room for one more. */
        int add(int where, int itsPace, int itsDelay) {
            int person = count;
            if (person >= MOST_PERSONS) {
                return NONE;
            }
            cell[person] = where;
            pace[person] = itsPace;
            delay[person] = itsDelay;
            habit[person] = NONE;
            inCell[where] = person;
            count++;
            return person;
        }
    }

    /** A run, and what is remembered of the latest one. */
    private static final class Flight {
        private final Storey storey;
        private final Numbers numbers;
        private final People people;
        final int[] state;
        final int[] since;
        final int[] exitTaken;
        final int[] steps;
        final int[] cameInAll;
        int last;
        private final int[] here;
        private final int[] goal;
        private final int[] mayStepFrom;
        private final int[][] stepSecond;
        private final int[][] stepCell;
        private final int[] inCell;
        private final int[] cameNow;
        // The second that cameNow counts for; it spares clearing all cells in each second.
        private final int[] cameSecond;
        private final int[] order;
        private int waiting;

        Flight(Storey storey, Numbers numbers, People people) {
            this.storey = storey;
            this.numbers = numbers;
            this.people = people;
            state = new int[MOST_PERSONS];
            since = new int[MOST_PERSONS];
            exitTaken = new int[MOST_PERSONS];
            steps = new int[MOST_PERSONS];
            cameInAll = new int[storey.cells];
            here = new int[MOST_PERSONS];
            goal = new int[MOST_PERSONS];
            mayStepFrom = new int[MOST_PERSONS];
            // Each step leads to a lesser number, so a person makes fewer steps than there are cells.
            stepSecond = new int[MOST_PERSONS][storey.cells];
            stepCell = new int[MOST_PERSONS][storey.cells];
            inCell = new int[storey.cells];
            cameNow = new int[storey.cells];
            cameSecond = new int[storey.cells];
            order = new int[MOST_PERSONS];
            waiting = 0;
            last = 0;
        }

        /** The caller has found all walking numbers. */
        void goAll() {
            begin();
            int second = 0;
            boolean changed = true;
            while (waiting > 0 && second < LAST_SECOND) {
                second = Math.max(second + 1, changed ? 0 : nextChange(second));
                boolean caught = endInSmoke(second);
                boolean stepped = stepAll(second);
                changed = caught || stepped;
            }
            last = second;
        }

        private void begin() {
            System.arraycopy(people.inCell, 0, inCell, 0, inCell.length);
            Arrays.fill(cameInAll, 0);
            Arrays.fill(cameSecond, 0);
            waiting = people.count;
            for (int person = 0; person < people.count; person++) {
                state[person] = WAITING;
                since[person] = NONE;
                exitTaken[person] = NONE;
                steps[person] = 0;
                here[person] = people.cell[person];
                goal[person] = goalOf(person);
                mayStepFrom[person] = people.delay[person] + people.pace[person];
            }
        }

        /**
         * The habit's exit if it can be reached, NONE for any exit. It holds for the whole run:
         * a person never steps to where other exits can be reached.
         */
        private int goalOf(int person) {
            int habit = people.habit[person];
            return numbers.foundRowTo(habit)[people.cell[person]] == NONE ? NONE : habit;
        }

        /**
         * Behind a second without any change the next one can bring a change only if someone may
         * step from then on who might not before, or smoke comes to someone's cell.
         */
        private int nextChange(int second) {
            int next = LAST_SECOND;
            for (int person = 0; person < people.count; person++) {
                if (state[person] == WAITING) {
                    int from = mayStepFrom[person];
                    if (from > second) {
                        next = Math.min(next, from);
                    }
                    int barred = storey.barredFrom[here[person]];
                    if (barred > second) {
                        next = Math.min(next, barred);
                    }
                }
            }
            return next;
        }

        private boolean endInSmoke(int second) {
            boolean caught = false;
            for (int person = 0; person < people.count; person++) {
                if (state[person] == WAITING && storey.isBarred(here[person], second)) {
                    inCell[here[person]] = NONE;
                    end(person, CAUGHT, second);
                    caught = true;
                }
            }
            return caught;
        }

        private boolean stepAll(int second) {
            boolean stepped = false;
            int count = lineUp(second);
            for (int place = 0; place < count; place++) {
                if (stepOne(order[place], second)) {
                    stepped = true;
                }
            }
            return stepped;
        }

        /** Puts those who may step in their order; those without a number can't step and are left away. */
        private int lineUp(int second) {
            int count = 0;
            for (int person = 0; person < people.count; person++) {
                if (state[person] == WAITING && mayStepFrom[person] <= second && numberOf(person) != NONE) {
                    int number = numberOf(person);
                    int place = count;
                    while (place > 0 && numberOf(order[place - 1]) > number) {
                        order[place] = order[place - 1];
                        place--;
                    }
                    order[place] = person;
                    count++;
                }
            }
            return count;
        }

        private int numberOf(int person) {
            return numbers.foundRowTo(goal[person])[here[person]];
        }

        private boolean stepOne(int person, int second) {
            int[] row = numbers.foundRowTo(goal[person]);
            int from = here[person];
            for (int way = 0; way < WAYS_ON; way++) {
                int to = storey.openBeside(from, way);
                if (to != NONE && row[to] != NONE && row[to] < row[from] && mayEnter(to, second)) {
                    move(person, to, second);
                    // Of the exits that it goes to, and of them alone, the number is 0.
                    if (row[to] == 0) {
                        exitTaken[person] = storey.exitIn[to];
                        end(person, OUT, second);
                    } else {
                        inCell[to] = person;
                    }
                    return true;
                }
            }
            return false;
        }

        private boolean mayEnter(int cell, int second) {
            if (inCell[cell] != NONE || storey.isBarred(cell, second)) {
                return false;
            }
            return !storey.hasRate(cell) || cameIn(cell, second) < storey.rate[cell];
        }

        private int cameIn(int cell, int second) {
            return cameSecond[cell] == second ? cameNow[cell] : 0;
        }

        private void move(int person, int to, int second) {
            cameNow[to] = cameIn(to, second) + 1;
            cameSecond[to] = second;
            cameInAll[to]++;
            inCell[here[person]] = NONE;
            here[person] = to;
            mayStepFrom[person] = second + people.pace[person];
            int step = steps[person];
            if (step < storey.cells) {
                stepSecond[person][step] = second;
                stepCell[person][step] = to;
                steps[person] = step + 1;
            }
        }

        private void end(int person, int how, int second) {
            state[person] = how;
            since[person] = second;
            waiting--;
        }

        private boolean isInCellBehind(int person, int second) {
            return state[person] == WAITING || since[person] > second;
        }

        int cellBehind(int person, int second) {
            if (!isInCellBehind(person, second)) {
                return NONE;
            }
            int cell = people.cell[person];
            for (int step = 0; step < steps[person] && stepSecond[person][step] <= second; step++) {
                cell = stepCell[person][step];
            }
            return cell;
        }

        int countBehind(int second) {
            int count = 0;
            for (int person = 0; person < people.count; person++) {
                if (isInCellBehind(person, second)) {
                    count++;
                }
            }
            return count;
        }
    }

    /** Turns, and the least signs that show them. */
    private static final class Signposts {
        private final Storey storey;
        private final int[] turnCell;
        // For each cell the turns that a sign in it shows, one bit for each.
        private final int[] shown;
        private final int[] showings;
        // For each set of turns the least signs that show it.
        private final int[] least;

        Signposts(Storey storey) {
            this.storey = storey;
            turnCell = new int[MOST_TURNS];
            shown = new int[storey.cells];
            showings = new int[MOST_SHOWINGS];
            least = new int[1 << MOST_TURNS];
        }

        int countTurns(int[] row) {
            int count = 0;
            for (int cell = 0; cell < storey.cells; cell++) {
                if (isTurn(cell, row)) {
                    count++;
                }
            }
            return count;
        }

        int countLeast(int[] row) {
            int turns = 0;
            for (int cell = 0; cell < storey.cells; cell++) {
                if (isTurn(cell, row)) {
                    if (turns >= MOST_TURNS) {
                        return NONE;
                    }
                    turnCell[turns] = cell;
                    turns++;
                }
            }
            showTurns(turns);
            return leastOf(turns, listShowings());
        }

        private boolean isTurn(int cell, int[] row) {
            // Below an exit's 0, and below the NONE of a cell without a number, no number is less.
            int lesser = 0;
            for (int way = 0; way < WAYS_ON; way++) {
                int other = storey.openBeside(cell, way);
                if (other != NONE && row[other] != NONE && row[other] < row[cell]) {
                    lesser++;
                }
            }
            return lesser >= 2;
        }

        /** A sign shows a turn from just the cells that are 2 steps or less from the turn. */
        private void showTurns(int turns) {
            Arrays.fill(shown, 0);
            for (int turn = 0; turn < turns; turn++) {
                int bit = 1 << turn;
                int cell = turnCell[turn];
                shown[cell] |= bit;
                for (int way = 0; way < WAYS_ON; way++) {
                    int other = storey.openBeside(cell, way);
                    if (other != NONE) {
                        shown[other] |= bit;
                        showBeside(other, bit);
                    }
                }
            }
        }

        private void showBeside(int cell, int bit) {
            for (int way = 0; way < WAYS_ON; way++) {
                int other = storey.openBeside(cell, way);
                if (other != NONE) {
                    shown[other] |= bit;
                }
            }
        }

        /** Lists the sets of turns that one sign can show, each once: which cell it is in does not matter. */
        private int listShowings() {
            int count = 0;
            for (int cell = 0; cell < storey.cells; cell++) {
                if (shown[cell] != 0 && count < MOST_SHOWINGS && !isListed(shown[cell], count)) {
                    showings[count] = shown[cell];
                    count++;
                }
            }
            return count;
        }

        private boolean isListed(int set, int count) {
            for (int place = 0; place < count; place++) {
                if (showings[place] == set) {
                    return true;
                }
            }
            return false;
        }

        /**
         * A sign more makes a set greater, so the sets are done from the least up. Some sign must
         * show the first turn that is not shown yet: only those are tried.
         */
        private int leastOf(int turns, int count) {
            int all = (1 << turns) - 1;
            Arrays.fill(least, MOST_TURNS + 1);
            least[0] = 0;
            for (int set = 0; set < all; set++) {
                int first = ~set & (set + 1);
                int signs = least[set] + 1;
                for (int place = 0; place < count && signs <= MOST_TURNS; place++) {
                    if ((showings[place] & first) != 0) {
                        int more = set | showings[place];
                        least[more] = Math.min(least[more], signs);
                    }
                }
            }
            return least[all];
        }
    }
}
