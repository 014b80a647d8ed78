import java.util.Random;
import java.util.function.LongSupplier;

/** Runs of calls, made from a fixed seed, answered by the class and by the model alike. */
public final class ModelTest {
    private static final int RUNS = 700;
    private static final int MAZES = 1500;
    private static final int MOST_CALLS = 512;
    private static final Check check = new Check("ModelTest");

    private final Random random;
    private final String name;
    private final int width;
    private final int height;
    private final int smokeUpTo;
    private final EscapeCells cells;
    private final StoreyModel model;
    private int calls = 0;
    private int persons = 0;
    private int exits = 0;

    private ModelTest(int seed) {
        random = new Random(seed);
        name = "run " + seed;
        int most = seed % 10 == 0 ? 26 : seed % 3 == 0 ? 12 : 7;
        width = random.nextInt(most);
        height = random.nextInt(most);
        smokeUpTo = 1 + random.nextInt(60);
        cells = new EscapeCells(width, height);
        model = new StoreyModel(width, height);
    }

    public static void main(String[] args) {
        for (int seed = 1; seed <= RUNS; seed++) {
            new ModelTest(seed).go();
        }
        for (int seed = 1; seed <= MAZES; seed++) {
            new ModelTest(RUNS + seed).goMaze();
        }
        check.finish();
    }

    private void go() {
        build();
        ask(40);
        for (int change = 0; change < 6; change++) {
            for (int i = random.nextInt(6); i >= 0; i--) {
                change();
            }
            ask(20);
        }
    }

    /** So many walls that there are seldom too many turns for signs. */
    private void goMaze() {
        int area = Math.max(2, width) * Math.max(2, height);
        for (int i = area * (20 + random.nextInt(50)) / 100; i > 0; i--) {
            tellWall(true);
        }
        for (int i = random.nextInt(8); i >= 0; i--) {
            tellExit();
        }
        for (int i = 0; i < 4; i++) {
            compare("turns()", cells::turns, model::turns);
            compare("signs()", cells::signs, model::signs);
            tellWall(chance(60));
            tellExit();
        }
    }

    private void compare(String call, LongSupplier got, LongSupplier due) {
        if (calls < MOST_CALLS) {
            calls++;
            check.same(name + ", call " + calls + ": " + call, answer(got), answer(due));
        }
    }

    /** An exception counts as an answer that no call gives. */
    private static long answer(LongSupplier call) {
        try {
            return call.getAsLong();
        } catch (RuntimeException thrown) {
            return 1_000_000_000L + Check.kindOf(thrown);
        }
    }

    private boolean chance(int percent) {
        return random.nextInt(100) < percent;
    }

    /** Mostly within its bounds, at times just or far beyond. */
    private int number(int least, int most) {
        if (chance(96)) {
            return least + random.nextInt(most - least + 1);
        }
        int[] edges = {least - 1, most + 1, Integer.MIN_VALUE, Integer.MAX_VALUE, least, most};
        return edges[random.nextInt(edges.length)];
    }

    private int x() {
        return number(0, Math.max(1, Math.min(23, width - 1)));
    }

    private int y() {
        return number(0, Math.max(1, Math.min(23, height - 1)));
    }

    private void build() {
        int area = Math.max(2, width) * Math.max(2, height);
        for (int i = random.nextInt(Math.min(area / 2 + 1, 120)); i > 0; i--) {
            tellWall(true);
        }
        for (int i = random.nextInt(5); i >= 0; i--) {
            tellExit();
        }
        for (int i = random.nextInt(4); i > 0; i--) {
            tellDoor();
        }
        for (int i = random.nextInt(Math.min(area / 2 + 2, 80)); i > 0; i--) {
            tellPerson();
        }
        for (int i = random.nextInt(10); i > 0; i--) {
            tellHabit();
        }
        for (int i = chance(60) ? random.nextInt(8) : 0; i > 0; i--) {
            tellSmoke();
        }
    }

    private void change() {
        switch (random.nextInt(6)) {
            case 0 -> tellWall(chance(50));
            case 1 -> tellExit();
            case 2 -> tellDoor();
            case 3 -> tellSmoke();
            case 4 -> tellPerson();
            default -> tellHabit();
        }
    }

    private void tellWall(boolean on) {
        int x = x();
        int y = y();
        compare("wall(" + x + ", " + y + ", " + on + ")",
            () -> cells.wall(x, y, on) ? 1 : 0, () -> model.wall(x, y, on) ? 1 : 0);
    }

    private void tellExit() {
        int x = x();
        int y = y();
        int rate = number(1, 5);
        compare("exit(" + x + ", " + y + ", " + rate + ")",
            () -> cells.exit(x, y, rate), () -> noteExit(model.exit(x, y, rate)));
    }

    private void tellDoor() {
        int x = x();
        int y = y();
        int rate = number(1, 5);
        compare("door(" + x + ", " + y + ", " + rate + ")", () -> {
            cells.door(x, y, rate);
            return 0;
        }, () -> {
            model.door(x, y, rate);
            return 0;
        });
    }

    private void tellSmoke() {
        int x = x();
        int y = y();
        int second = chance(80) ? random.nextInt(smokeUpTo) : number(-1, 3600);
        compare("smoke(" + x + ", " + y + ", " + second + ")",
            () -> cells.smoke(x, y, second), () -> model.smoke(x, y, second));
    }

    private void tellPerson() {
        int x = x();
        int y = y();
        int pace = chance(50) ? 1 : number(1, 5);
        int delay = chance(85) ? random.nextInt(6) : number(0, 600);
        compare("person(" + x + ", " + y + ", " + pace + ", " + delay + ")",
            () -> cells.person(x, y, pace, delay), () -> notePerson(model.person(x, y, pace, delay)));
    }

    private int noteExit(int exit) {
        exits = Math.max(exits, exit + 1);
        return exit;
    }

    private int notePerson(int person) {
        persons = person + 1;
        return person;
    }

    private int someone() {
        return number(0, Math.max(0, persons - 1));
    }

    private int someExit() {
        return number(-1, exits - 1);
    }

    private void tellHabit() {
        int person = someone();
        int exit = someExit();
        compare("habit(" + person + ", " + exit + ")",
            () -> cells.habit(person, exit), () -> model.habit(person, exit));
    }

    private void ask(int questions) {
        if (chance(80)) {
            compare("run()", cells::run, model::run);
            askAllPersons();
        }
        for (int i = 0; i < questions; i++) {
            askOne();
        }
    }

    private void askOne() {
        int x = x();
        int y = y();
        int person = someone();
        int second = chance(80) ? random.nextInt(40) : number(0, 3600);
        switch (random.nextInt(12)) {
            case 0 -> {
                int exit = someExit();
                compare("walk(" + x + ", " + y + ", " + exit + ")",
                    () -> cells.walk(x, y, exit), () -> model.walk(x, y, exit));
            }
            case 1, 2 -> {
                int what = number(0, 3);
                compare("told(" + person + ", " + what + ")",
                    () -> cells.told(person, what), () -> model.told(person, what));
            }
            case 3, 4, 5, 6 -> {
                int axis = number(0, 1);
                compare("at(" + person + ", " + second + ", " + axis + ")",
                    () -> cells.at(person, second, axis), () -> model.at(person, second, axis));
            }
            case 7 -> compare("through(" + x + ", " + y + ")", () -> cells.through(x, y), () -> model.through(x, y));
            case 8 -> compare("left(" + second + ")", () -> cells.left(second), () -> model.left(second));
            case 9 -> compare("ways()", cells::ways, model::ways);
            case 10 -> compare("turns()", cells::turns, model::turns);
            default -> compare("signs()", cells::signs, model::signs);
        }
    }

    /** For all persons a question whose answer hangs on all that happened before. */
    private void askAllPersons() {
        int what = random.nextInt(4);
        for (int i = 0; i < persons; i++) {
            int person = i;
            compare("told(" + i + ", " + what + ")", () -> cells.told(person, what), () -> model.told(person, what));
        }
    }
}
