import java.util.ArrayList;
import java.util.Comparator;
import java.util.HashMap;
import java.util.HashSet;
import java.util.List;
import java.util.Map;
import java.util.Set;
import java.util.TreeSet;

/**
 * The document's words done one by one, without a thought for speed: numbers by relaxation, a run by
 * every second of it with all places kept, signs by trying all choices of as few cells as will do.
 */
final class StoreyModel {
    private static final int NONE = -1;

    private record Cell(int x, int y) {
        List<Cell> beside() {
            return List.of(new Cell(x + 1, y), new Cell(x - 1, y), new Cell(x, y + 1), new Cell(x, y - 1));
        }
    }

    private static final class Person {
        Cell came;
        int pace;
        int delay;
        int habit = NONE;
        Cell now;
        int state;
        int since;
        int by;
        int steps;
        int latest;
        final List<Cell> places = new ArrayList<>();
    }

    private final int width;
    private final int height;
    private final Set<Cell> walls = new HashSet<>();
    private final Map<Cell, Integer> exitNumber = new HashMap<>();
    private final Map<Cell, Integer> rates = new HashMap<>();
    private final Map<Cell, Integer> smokes = new HashMap<>();
    private final List<Person> persons = new ArrayList<>();
    private final Map<Cell, Integer> came = new HashMap<>();
    private int exitsEver = 0;
    private boolean ran = false;
    private int last = 0;

    StoreyModel(int width, int height) {
        this.width = width < 2 ? 2 : width > 24 ? 24 : width;
        this.height = height < 2 ? 2 : height > 24 ? 24 : height;
    }

    private boolean inside(Cell c) {
        return c.x >= 0 && c.x < width && c.y >= 0 && c.y < height;
    }

    private Cell cell(int x, int y) {
        Cell c = new Cell(x, y);
        argument(inside(c));
        return c;
    }

    private static void argument(boolean good) {
        if (!good) {
            throw new IllegalArgumentException();
        }
    }

    private static void state(boolean good) {
        if (!good) {
            throw new IllegalStateException();
        }
    }

    private boolean someoneCameIn(Cell c) {
        return persons.stream().anyMatch(p -> p.came.equals(c));
    }

    boolean wall(int x, int y, boolean on) {
        Cell c = cell(x, y);
        state(!someoneCameIn(c));
        boolean was = walls.contains(c);
        if (on) {
            walls.add(c);
            exitNumber.remove(c);
            rates.remove(c);
        } else {
            walls.remove(c);
        }
        ran = false;
        return was;
    }

    int exit(int x, int y, int rate) {
        Cell c = cell(x, y);
        argument(rate >= 1 && rate <= 5);
        state(!walls.contains(c) && !someoneCameIn(c));
        state(exitNumber.containsKey(c) || exitsEver < 8);
        if (!exitNumber.containsKey(c)) {
            exitNumber.put(c, exitsEver++);
        }
        rates.put(c, rate);
        ran = false;
        return exitNumber.get(c);
    }

    void door(int x, int y, int rate) {
        Cell c = cell(x, y);
        argument(rate >= 1 && rate <= 5);
        state(!walls.contains(c) && !exitNumber.containsKey(c));
        rates.put(c, rate);
        ran = false;
    }

    int smoke(int x, int y, int second) {
        Cell c = cell(x, y);
        argument(second >= NONE && second <= 3600);
        int was = smokes.getOrDefault(c, NONE);
        smokes.put(c, second);
        ran = false;
        return was;
    }

    int person(int x, int y, int pace, int delay) {
        Cell c = cell(x, y);
        argument(pace >= 1 && pace <= 5 && delay >= 0 && delay <= 600);
        state(!walls.contains(c) && !exitNumber.containsKey(c) && !someoneCameIn(c) && persons.size() < 60);
        Person p = new Person();
        p.came = c;
        p.pace = pace;
        p.delay = delay;
        persons.add(p);
        ran = false;
        return persons.size() - 1;
    }

    int habit(int person, int exit) {
        argument(person >= 0 && person < persons.size());
        argument(exit >= NONE && exit < exitsEver);
        int was = persons.get(person).habit;
        persons.get(person).habit = exit;
        ran = false;
        return was;
    }

    /** The cells that have a number, with it. */
    private Map<Cell, Integer> numbers(int exit) {
        Map<Cell, Integer> found = new HashMap<>();
        for (Map.Entry<Cell, Integer> e : exitNumber.entrySet()) {
            if (exit == NONE || e.getValue() == exit) {
                found.put(e.getKey(), 0);
            }
        }
        boolean changed = true;
        while (changed) {
            changed = false;
            for (int x = 0; x < width; x++) {
                for (int y = 0; y < height; y++) {
                    Cell c = new Cell(x, y);
                    if (!walls.contains(c)) {
                        for (Cell b : c.beside()) {
                            Integer n = found.get(b);
                            if (n != null && (!found.containsKey(c) || found.get(c) > n + 1)) {
                                found.put(c, n + 1);
                                changed = true;
                            }
                        }
                    }
                }
            }
        }
        return found;
    }

    int ways() {
        return numbers(NONE).size();
    }

    int walk(int x, int y, int exit) {
        Cell c = cell(x, y);
        argument(exit >= NONE && exit < exitsEver);
        return numbers(exit).getOrDefault(c, NONE);
    }

    private boolean barred(Cell c, int second) {
        int from = smokes.getOrDefault(c, NONE);
        return from != NONE && from <= second;
    }

    int run() {
        came.clear();
        List<Map<Cell, Integer>> numbers = new ArrayList<>();
        for (int exit = NONE; exit < exitsEver; exit++) {
            numbers.add(numbers(exit));
        }
        for (Person p : persons) {
            p.now = p.came;
            p.state = 0;
            p.since = NONE;
            p.by = NONE;
            p.steps = 0;
            p.latest = NONE;
            p.places.clear();
            p.places.add(p.now);
        }
        int t = 0;
        while (t < 3600 && persons.stream().anyMatch(p -> p.state == 0)) {
            t++;
            second(t, numbers);
            for (Person p : persons) {
                p.places.add(p.now);
            }
        }
        last = t;
        ran = true;
        return t;
    }

    private Map<Cell, Integer> ownNumbers(Person p, List<Map<Cell, Integer>> numbers) {
        boolean byHabit = p.habit != NONE && numbers.get(p.habit + 1).containsKey(p.now);
        return numbers.get(byHabit ? p.habit + 1 : 0);
    }

    private void second(int t, List<Map<Cell, Integer>> numbers) {
        for (Person p : persons) {
            if (p.state == 0 && barred(p.now, t)) {
                p.state = 2;
                p.since = t;
                p.now = null;
            }
        }
        List<Person> line = new ArrayList<>();
        Map<Person, Integer> key = new HashMap<>();
        for (Person p : persons) {
            boolean may = p.latest == NONE ? t >= p.delay + p.pace : t - p.latest >= p.pace;
            if (p.state == 0 && t > p.delay && may) {
                line.add(p);
                key.put(p, ownNumbers(p, numbers).getOrDefault(p.now, Integer.MAX_VALUE));
            }
        }
        line.sort(Comparator.comparing(key::get));
        Map<Cell, Integer> cameNow = new HashMap<>();
        for (Person p : line) {
            step(p, t, ownNumbers(p, numbers), cameNow);
        }
    }

    private void step(Person p, int t, Map<Cell, Integer> own, Map<Cell, Integer> cameNow) {
        if (!own.containsKey(p.now)) {
            return;
        }
        for (Cell b : p.now.beside()) {
            boolean less = own.containsKey(b) && own.get(b) < own.get(p.now);
            if (less && mayEnter(b, t, cameNow)) {
                p.now = b;
                p.latest = t;
                p.steps++;
                cameNow.merge(b, 1, Integer::sum);
                came.merge(b, 1, Integer::sum);
                if (own.get(b) == 0) {
                    p.state = 1;
                    p.since = t;
                    p.by = exitNumber.get(b);
                    p.now = null;
                }
                return;
            }
        }
    }

    private boolean mayEnter(Cell c, int t, Map<Cell, Integer> cameNow) {
        boolean taken = false;
        for (Person p : persons) {
            taken |= c.equals(p.now);
        }
        boolean full = rates.containsKey(c) && cameNow.getOrDefault(c, 0) >= rates.get(c);
        return !walls.contains(c) && !taken && !barred(c, t) && !full;
    }

    int told(int person, int what) {
        argument(person >= 0 && person < persons.size() && what >= 0 && what <= 3);
        state(ran);
        Person p = persons.get(person);
        return new int[] {p.state, p.since, p.by, p.steps}[what];
    }

    private Cell place(Person p, int second) {
        return p.places.get(Math.min(second, last));
    }

    int at(int person, int second, int axis) {
        argument(person >= 0 && person < persons.size());
        argument(second >= 0 && second <= 3600 && axis >= 0 && axis <= 1);
        state(ran);
        Cell c = place(persons.get(person), second);
        return c == null ? NONE : axis == 0 ? c.x : c.y;
    }

    int through(int x, int y) {
        Cell c = cell(x, y);
        state(ran);
        return came.getOrDefault(c, 0);
    }

    int left(int second) {
        argument(second >= 0 && second <= 3600);
        state(ran);
        int count = 0;
        for (Person p : persons) {
            count += place(p, second) == null ? 0 : 1;
        }
        return count;
    }

    private List<Cell> turnCells() {
        Map<Cell, Integer> numbers = numbers(NONE);
        List<Cell> turns = new ArrayList<>();
        for (Cell c : numbers.keySet()) {
            int own = numbers.get(c);
            long less = c.beside().stream().filter(b -> numbers.getOrDefault(b, own) < own).count();
            if (!exitNumber.containsKey(c) && less >= 2) {
                turns.add(c);
            }
        }
        return turns;
    }

    int turns() {
        return turnCells().size();
    }

    private Set<Cell> shownFrom(Cell sign) {
        Set<Cell> shown = new HashSet<>(Set.of(sign));
        for (int step = 0; step < 2; step++) {
            for (Cell c : new ArrayList<>(shown)) {
                for (Cell b : c.beside()) {
                    if (inside(b) && !walls.contains(b)) {
                        shown.add(b);
                    }
                }
            }
        }
        return shown;
    }

    int signs() {
        List<Cell> turns = turnCells();
        if (turns.size() > 12) {
            return NONE;
        }
        Set<Integer> sets = new TreeSet<>();
        for (Cell c : numbers(NONE).keySet()) {
            Set<Cell> shown = shownFrom(c);
            int bits = 0;
            for (int i = 0; i < turns.size(); i++) {
                bits |= shown.contains(turns.get(i)) ? 1 << i : 0;
            }
            sets.add(bits);
        }
        List<Integer> choices = new ArrayList<>(sets);
        int all = (1 << turns.size()) - 1;
        int signs = 0;
        while (!canShow(choices, 0, signs, all)) {
            signs++;
        }
        return signs;
    }

    /** Whether so many of the choices from one on show all that is missing. */
    private static boolean canShow(List<Integer> choices, int from, int signs, int missing) {
        if (missing == 0) {
            return true;
        }
        int most = 0;
        for (int i = from; i < choices.size(); i++) {
            most = Math.max(most, Integer.bitCount(choices.get(i) & missing));
        }
        if (signs * most < Integer.bitCount(missing)) {
            return false;
        }
        for (int i = from; i < choices.size(); i++) {
            if ((choices.get(i) & missing) != 0 && canShow(choices, i + 1, signs - 1, missing & ~choices.get(i))) {
                return true;
            }
        }
        return false;
    }
}
