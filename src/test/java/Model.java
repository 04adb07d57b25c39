import java.util.ArrayList;
import java.util.Arrays;
import java.util.Collections;
import java.util.HashMap;
import java.util.HashSet;
import java.util.LinkedHashMap;
import java.util.List;
import java.util.Map;
import java.util.Set;
import java.util.TreeMap;
import java.util.TreeSet;
import java.util.function.ToIntFunction;

/**
 * The document again, as plainly as it can be told with the Java library: cells are points, walls
 * are maps, all is counted anew for each call. ModelTest holds the class against it.
 */
final class Model {
    static final int NONE = -1;

    /** By y, then x, as the document numbers cells. */
    record Cell(int x, int y) implements Comparable<Cell> {
        @Override
        public int compareTo(Cell other) {
            return y != other.y ? Integer.compare(y, other.y) : Integer.compare(x, other.x);
        }

        boolean touches(Cell other) {
            return Math.abs(x - other.x) + Math.abs(y - other.y) == 1;
        }
    }

    /** Cells in order, each with a brick or NONE. */
    static final class Wall {
        final TreeMap<Cell, Integer> bricks = new TreeMap<>();

        Wall(Set<Cell> shape) {
            for (Cell cell : shape) {
                bricks.put(cell, NONE);
            }
        }

        Wall(Wall other) {
            bricks.putAll(other.bricks);
        }

        List<Cell> cells() {
            return new ArrayList<>(bricks.keySet());
        }

        List<Integer> row() {
            List<Integer> row = new ArrayList<>(bricks.values());
            row.removeIf(brick -> brick == NONE);
            return row;
        }

        Cell cellOf(int brick) {
            for (Map.Entry<Cell, Integer> entry : bricks.entrySet()) {
                if (entry.getValue() == brick) {
                    return entry.getKey();
                }
            }
            return null;
        }

        boolean beside(int a, int b) {
            Cell one = cellOf(a);
            Cell other = cellOf(b);
            return one != null && other != null && one.touches(other);
        }

        Set<Integer> besides(int brick) {
            Set<Integer> set = new TreeSet<>();
            for (int other : row()) {
                if (beside(brick, other)) {
                    set.add(other);
                }
            }
            return set;
        }

        Set<Set<Integer>> couples() {
            Set<Set<Integer>> couples = new HashSet<>();
            for (int a : row()) {
                for (int b : besides(a)) {
                    couples.add(Set.of(a, b));
                }
            }
            return couples;
        }

        void exchange(Cell a, Cell b) {
            int brick = bricks.get(a);
            bricks.put(a, bricks.get(b));
            bricks.put(b, brick);
        }
    }

    record Line(int way, int by, ToIntFunction<int[]> when) {
    }

    record Year(Wall wall, int bad, int kept, boolean good) {
    }

    static final class Fault extends RuntimeException {
        private static final long serialVersionUID = 1L;
        final int what;
        final int place;

        Fault(int what, int place) {
            this.what = what;
            this.place = place;
        }
    }

    /** All that the image keeps. */
    static final class World {
        int state;
        int alike;
        int bear;
        int year;
        int[] marks = new int[24];
        boolean[] broken = new boolean[24];
        List<TreeSet<Cell>> shapes = new ArrayList<>();
        List<Wall> walls = new ArrayList<>();
        List<List<Line>> rules = new ArrayList<>();
        List<Year> history = new ArrayList<>();
        Map<Set<Integer>, Integer> firsts = new HashMap<>();

        World copy() {
            World copy = new World();
            copy.state = state;
            copy.alike = alike;
            copy.bear = bear;
            copy.year = year;
            copy.marks = marks.clone();
            copy.broken = broken.clone();
            copy.shapes = new ArrayList<>(shapes);
            for (Wall wall : walls) {
                copy.walls.add(new Wall(wall));
            }
            copy.rules = new ArrayList<>(rules);
            copy.history = new ArrayList<>(history);
            copy.firsts = new HashMap<>(firsts);
            return copy;
        }
    }

    private World world = new World();
    private World image;
    private final List<Integer> tape = new ArrayList<>();
    private int fault;
    private int place = NONE;

    Model() {
        for (int i = 0; i < 6; i++) {
            world.shapes.add(new TreeSet<>());
            world.walls.add(new Wall(new TreeSet<>()));
        }
        for (int i = 0; i < 3; i++) {
            world.rules.add(List.of());
        }
    }

    private static boolean in(int v, int least, int most) {
        return v >= least && v <= most;
    }

    int state(int v) {
        int was = world.state;
        world.state = v;
        return was;
    }

    int feed(int... numbers) {
        if (tape.size() + 20 > 400) {
            return NONE;
        }
        for (int number : numbers) {
            tape.add(number >>> 24);
            tape.add(number >>> 16 & 255);
            tape.add(number >>> 8 & 255);
            tape.add(number & 255);
        }
        return tape.size();
    }

    boolean end(int n) {
        if (!in(n, 0, tape.size())) {
            return false;
        }
        tape.subList(n, tape.size()).clear();
        return true;
    }

    int text(int k) {
        StringBuilder text = new StringBuilder();
        for (int sign : tape) {
            text.append((char) sign);
        }
        tape.clear();
        fault = 0;
        place = NONE;
        if (!in(k, 0, 8)) {
            return NONE;
        }
        try {
            ModelReader reader = new ModelReader(text.toString());
            if (k < 6) {
                TreeSet<Cell> shape = reader.shape();
                world.shapes.set(k, shape);
                return shape.size();
            }
            List<Line> rule = reader.rule();
            world.rules.set(k - 6, rule);
            return rule.size();
        } catch (Fault f) {
            fault = f.what;
            place = f.place;
            return NONE;
        }
    }

    int fault(int what) {
        return what == 0 ? fault : what == 1 ? place : NONE;
    }

    int cell(int shape, int i, int what) {
        if (!in(shape, 0, 5) || !in(i, 0, world.shapes.get(shape).size() - 1) || !in(what, 0, 3)) {
            return NONE - 1;
        }
        List<Cell> cells = new ArrayList<>(world.shapes.get(shape));
        Cell cell = cells.get(i);
        if (what == 2) {
            return (int) cells.stream().filter(cell::touches).count();
        }
        return what == 0 ? cell.x : what == 1 ? cell.y : cells.indexOf(new Cell(cell.x, cell.y - 1));
    }

    boolean set(int what, int v) {
        if (what == 0 && in(v, 0, 1)) {
            world.alike = v;
        } else if (what == 1 && in(v, 0, 24)) {
            world.bear = v;
        } else if (in(what, 10, 33) && in(v, 0, 3)) {
            world.marks[what - 10] = v;
        } else if (in(what, 40, 63) && in(v, 0, 1)) {
            world.broken[what - 40] = v == 1;
        } else {
            return false;
        }
        return true;
    }

    boolean wall(int w, int shape) {
        if (!in(w, 0, 5) || !in(shape, 0, 5)) {
            return false;
        }
        world.walls.set(w, new Wall(world.shapes.get(shape)));
        return true;
    }

    boolean lay(int w, int cell, int brick) {
        if (!in(w, 0, 5) || !in(brick, NONE, 23) || !in(cell, 0, world.walls.get(w).cells().size() - 1)) {
            return false;
        }
        Wall wall = world.walls.get(w);
        Cell there = wall.cells().get(cell);
        if (brick != NONE && wall.cellOf(brick) != null && !wall.cellOf(brick).equals(there)) {
            return false;
        }
        wall.bricks.put(there, brick);
        return true;
    }

    boolean fill(int w, int from) {
        if (!in(w, 0, 5) || !in(from, 0, 23)) {
            return false;
        }
        Wall wall = world.walls.get(w);
        if (wall.bricks.isEmpty() || from + wall.bricks.size() > 24) {
            return false;
        }
        int brick = from;
        for (Cell cell : wall.cells()) {
            wall.bricks.put(cell, brick++);
        }
        return true;
    }

    int at(int w, int cell) {
        if (!in(w, 0, 5) || !in(cell, 0, world.walls.get(w).cells().size() - 1)) {
            return NONE - 1;
        }
        Wall wall = world.walls.get(w);
        return wall.bricks.get(wall.cells().get(cell));
    }

    int beside(int w, int brick) {
        if (!in(w, 0, 5) || !in(brick, 0, 23) || world.walls.get(w).cellOf(brick) == null) {
            return NONE;
        }
        return number(world.walls.get(w).besides(brick));
    }

    private static int number(Set<Integer> set) {
        return set.stream().mapToInt(brick -> 1 << brick).sum();
    }

    private Set<Integer> bad(Wall a, Wall b) {
        Set<Integer> bad = new TreeSet<>();
        for (int brick : b.row()) {
            boolean old = false;
            if (a.cellOf(brick) != null) {
                for (int now : b.besides(brick)) {
                    for (int before : a.besides(brick)) {
                        old |= now == before || world.alike == 1 && world.marks[now] == world.marks[before];
                    }
                }
            }
            if (!old) {
                bad.add(brick);
            }
        }
        return bad;
    }

    private static int kept(Wall a, Wall b) {
        Set<Set<Integer>> both = b.couples();
        both.retainAll(a.couples());
        return both.size();
    }

    private boolean isGood(Wall a, Wall b) {
        return bad(a, b).size() <= world.bear;
    }

    int good(int a, int b, int what) {
        if (!in(a, 0, 5) || !in(b, 0, 5) || !in(what, 0, 3)) {
            return NONE - 1;
        }
        Wall old = world.walls.get(a);
        Wall fresh = world.walls.get(b);
        switch (what) {
            case 0:
                return number(bad(old, fresh));
            case 1:
                return bad(old, fresh).size();
            case 2:
                return kept(old, fresh);
            default:
                return isGood(old, fresh) ? 1 : 0;
        }
    }

    int judge(int row, int n) {
        if (!in(n, 2, 6) || row < 0 || row >= Math.pow(6, n)) {
            return NONE - 1;
        }
        String digits = Integer.toString(row, 6);
        while (digits.length() < n) {
            digits = "0" + digits;
        }
        for (int i = 1; i < n; i++) {
            if (!isGood(world.walls.get(digits.charAt(i - 1) - '0'), world.walls.get(digits.charAt(i) - '0'))) {
                return i;
            }
        }
        return NONE;
    }

    private int draw(int m) {
        world.state = 1664525 * world.state + 1013904223;
        long unsigned = world.state & 0xFFFFFFFFL;
        return (int) (unsigned / 256 % m);
    }

    private static List<List<Cell>> coupled(List<Cell> cells) {
        List<List<Cell>> couples = new ArrayList<>();
        Set<Cell> taken = new HashSet<>();
        for (Cell cell : cells) {
            if (taken.contains(cell)) {
                continue;
            }
            for (Cell other : cells) {
                if (!taken.contains(other) && cell.touches(other)) {
                    couples.add(List.of(cell, other));
                    taken.add(cell);
                    taken.add(other);
                    break;
                }
            }
        }
        return couples;
    }

    private Wall putUp(Wall from, Set<Cell> shape, int way, int by) {
        Wall fresh = new Wall(shape);
        List<Cell> cells = fresh.cells();
        int m = cells.size();
        List<Integer> row = from.row();
        List<Cell> targets = new ArrayList<>(cells);
        if (way == 1) {
            Collections.rotate(targets, -(by % m));
        } else if (way == 2) {
            Collections.reverse(targets);
        } else if (way == 3) {
            targets.sort((a, b) -> a.y != b.y ? a.y - b.y : a.y % 2 == 0 ? a.x - b.x : b.x - a.x);
        } else if (way == 4) {
            List<Cell> filled = from.cells();
            filled.removeIf(cell -> from.bricks.get(cell) == NONE);
            List<List<Cell>> old = coupled(filled);
            List<List<Cell>> now = coupled(cells);
            for (int i = 0; i < old.size() && i < now.size(); i++) {
                for (int k = 0; k < 2; k++) {
                    fresh.bricks.put(now.get(i).get(k), from.bricks.get(old.get(i).get(k)));
                }
            }
            row.removeIf(brick -> fresh.cellOf(brick) != null);
            targets.removeIf(cell -> fresh.bricks.get(cell) != NONE);
        }
        for (int i = 0; i < row.size() && i < targets.size(); i++) {
            fresh.bricks.put(targets.get(i), row.get(i));
        }
        if (way == 5) {
            while (mendOnce(from, fresh)) {
                continue;
            }
        }
        if (way == 6) {
            for (int i = m - 1; i >= 1; i--) {
                fresh.exchange(cells.get(i), cells.get(draw(i + 1)));
            }
        }
        return fresh;
    }

    private boolean mendOnce(Wall old, Wall fresh) {
        int bad = bad(old, fresh).size();
        int kept = kept(old, fresh);
        List<Cell> cells = fresh.cells();
        for (int i = 0; i < cells.size(); i++) {
            for (int j = i + 1; j < cells.size(); j++) {
                fresh.exchange(cells.get(i), cells.get(j));
                int badThen = bad(old, fresh).size();
                if (badThen < bad || badThen == bad && kept(old, fresh) > kept) {
                    return true;
                }
                fresh.exchange(cells.get(i), cells.get(j));
            }
        }
        return false;
    }

    int again(int a, int b, int shape, int way, int by) {
        if (!in(a, 0, 5) || !in(b, 0, 5) || !in(shape, 0, 5) || !in(way, 0, 6) || way == 1 && !in(by, 0, 99)
                || world.shapes.get(shape).isEmpty()) {
            return NONE;
        }
        int bricks = world.walls.get(a).row().size();
        world.walls.set(b, putUp(world.walls.get(a), world.shapes.get(shape), way, by));
        return bricks - world.walls.get(b).row().size();
    }

    int years(int rule, int shape, int n) {
        if (!in(rule, 0, 2) || !in(shape, 0, 5) || !in(n, 1, 30) || world.shapes.get(shape).isEmpty()
                || world.walls.get(0).row().isEmpty() || world.year + n > 999) {
            return NONE;
        }
        int good = 0;
        for (int i = 0; i < n; i++) {
            if (year(world.rules.get(rule), world.shapes.get(shape))) {
                good++;
            }
        }
        return good;
    }

    private boolean year(List<Line> rule, Set<Cell> shape) {
        Wall old = world.walls.get(0);
        Wall same = putUp(old, shape, 0, 0);
        int[] values = {world.year, shape.size(), bad(old, same).size(), kept(old, same), world.firsts.size()};
        Wall fresh = same;
        for (Line line : rule) {
            if (line.when == null || line.when.applyAsInt(values) == 1) {
                fresh = putUp(old, shape, line.way, line.by);
                break;
            }
        }
        boolean good = isGood(old, fresh);
        if (world.history.size() < 60) {
            world.history.add(new Year(new Wall(fresh), bad(old, fresh).size(), kept(old, fresh), good));
        }
        for (Set<Integer> couple : fresh.couples()) {
            world.firsts.putIfAbsent(couple, world.year);
        }
        world.walls.set(0, fresh);
        world.year++;
        return good;
    }

    int history(int i, int what) {
        if (!in(i, 0, world.history.size() - 1) || !in(what, 0, 3)) {
            return NONE;
        }
        Year year = world.history.get(i);
        return new int[] {year.bad, year.kept, year.good ? 1 : 0, year.wall.couples().size()}[what];
    }

    int met(int what) {
        List<Integer> row = world.walls.get(0).row();
        int all = row.size() * (row.size() - 1) / 2;
        switch (what) {
            case 0:
                return world.firsts.size();
            case 1:
                return all - (int) world.firsts.keySet().stream().filter(row::containsAll).count();
            case 2:
                Set<Set<Integer>> always = new HashSet<>();
                for (int i = 0; i < world.history.size(); i++) {
                    Set<Set<Integer>> couples = world.history.get(i).wall.couples();
                    if (i == 0) {
                        always.addAll(couples);
                    }
                    always.retainAll(couples);
                }
                return always.size();
            case 3:
                int touching = 0;
                for (Cell a : world.walls.get(0).cells()) {
                    for (Cell b : world.walls.get(0).cells()) {
                        touching += a.compareTo(b) < 0 && a.touches(b) ? 1 : 0;
                    }
                }
                return touching == 0 ? NONE : (int) Math.ceil((double) all / touching);
            case 4:
                return world.year;
            case 5:
                return world.history.size();
            default:
                return NONE;
        }
    }

    int two(int a, int b, int what) {
        if (!in(a, 0, 23) || !in(b, 0, 23) || a == b || !in(what, 0, 2)) {
            return NONE - 1;
        }
        int first = world.firsts.getOrDefault(Set.of(a, b), NONE);
        if (what != 1) {
            return what == 0 ? first : first == NONE ? 0 : 1;
        }
        int longest = 0;
        for (int from = 0; from < world.history.size(); from++) {
            int to = from;
            while (to < world.history.size() && !world.history.get(to).wall.beside(a, b)) {
                to++;
            }
            longest = Math.max(longest, to - from);
        }
        return longest;
    }

    int parting(int shape, int c) {
        if (!in(shape, 0, 5) || world.shapes.get(shape).isEmpty() || !in(c, NONE, 12)) {
            return NONE;
        }
        if (c == NONE) {
            return mostCouples(new ArrayList<>(world.shapes.get(shape)));
        }
        return parts(world.shapes.get(shape), c, new HashMap<>()) ? 1 : 0;
    }

    private static int mostCouples(List<Cell> cells) {
        int count = 0;
        Map<Cell, Cell> partners = new HashMap<>();
        for (Cell cell : cells) {
            if ((cell.x + cell.y) % 2 == 0 && augment(cell, cells, partners, new HashSet<>())) {
                count++;
            }
        }
        return count;
    }

    private static boolean augment(Cell cell, List<Cell> cells, Map<Cell, Cell> partners, Set<Cell> seen) {
        for (Cell other : cells) {
            if (cell.touches(other) && seen.add(other)) {
                if (!partners.containsKey(other) || augment(partners.get(other), cells, partners, seen)) {
                    partners.put(other, cell);
                    return true;
                }
            }
        }
        return false;
    }

    private static boolean parts(Set<Cell> rest, int couples, Map<List<Object>, Boolean> known) {
        if (rest.isEmpty()) {
            return couples == 0;
        }
        if (couples < 0) {
            return false;
        }
        List<Object> key = List.of(Set.copyOf(rest), couples);
        if (known.containsKey(key)) {
            return known.get(key);
        }
        Cell first = new TreeSet<>(rest).first();
        boolean can = false;
        for (int many = 2; many <= 3 && !can; many++) {
            for (int way = 0; way < 2 && !can; way++) {
                Set<Cell> part = new HashSet<>();
                for (int i = 0; i < many; i++) {
                    part.add(way == 0 ? new Cell(first.x + i, first.y) : new Cell(first.x, first.y + i));
                }
                if (rest.containsAll(part)) {
                    Set<Cell> then = new HashSet<>(rest);
                    then.removeAll(part);
                    can = parts(then, many == 2 ? couples - 1 : couples, known);
                }
            }
        }
        known.put(key, can);
        return can;
    }

    int layings(int a, int shape, int what) {
        if (!in(a, 0, 5) || !in(shape, 0, 5)) {
            return NONE;
        }
        Wall old = world.walls.get(a);
        List<Integer> bricks = old.row();
        int n = bricks.size();
        if (!in(n, 1, 7) || world.shapes.get(shape).size() != n || !in(what, 0, 2) && !in(what, 10, 9 + n)) {
            return NONE;
        }
        Collections.sort(bricks);
        List<List<Integer>> rows = new ArrayList<>();
        permute(bricks, new ArrayList<>(), rows);
        int fewest = 99;
        int most = 0;
        int good = 0;
        int keptOfBest = -1;
        List<Integer> best = null;
        for (List<Integer> row : rows) {
            Wall fresh = new Wall(world.shapes.get(shape));
            List<Cell> cells = fresh.cells();
            for (int i = 0; i < n; i++) {
                fresh.bricks.put(cells.get(i), row.get(i));
            }
            int bad = bad(old, fresh).size();
            int kept = kept(old, fresh);
            if (bad < fewest || bad == fewest && kept > keptOfBest) {
                best = row;
                keptOfBest = kept;
            }
            fewest = Math.min(fewest, bad);
            most = Math.max(most, kept);
            good += bad <= world.bear ? 1 : 0;
        }
        return what >= 10 ? best.get(what - 10) : new int[] {fewest, most, good}[what];
    }

    private static void permute(List<Integer> rest, List<Integer> row, List<List<Integer>> rows) {
        if (rest.isEmpty()) {
            rows.add(new ArrayList<>(row));
        }
        for (Integer brick : rest) {
            List<Integer> others = new ArrayList<>(rest);
            others.remove(brick);
            row.add(brick);
            permute(others, row, rows);
            row.remove(row.size() - 1);
        }
    }

    int order(int a, int b, int what) {
        if (!in(a, 0, 5) || !in(b, 0, 5)) {
            return NONE;
        }
        Wall old = world.walls.get(a);
        Wall wall = world.walls.get(b);
        List<Integer> laid = new ArrayList<>();
        int starts = 0;
        while (laid.size() < wall.row().size()) {
            Integer next = null;
            Integer start = null;
            for (Cell cell : wall.cells()) {
                int brick = wall.bricks.get(cell);
                int below = wall.bricks.getOrDefault(new Cell(cell.x, cell.y - 1), NONE);
                if (brick == NONE || laid.contains(brick) || below != NONE && !laid.contains(below)) {
                    continue;
                }
                start = start == null ? Integer.valueOf(brick) : start;
                boolean hasOne = laid.stream().anyMatch(one -> wall.beside(one, brick) && old.beside(one, brick));
                next = next == null && hasOne ? Integer.valueOf(brick) : next;
            }
            starts += next == null ? 1 : 0;
            laid.add(next == null ? start : next);
        }
        if (what == 0) {
            return starts;
        }
        return in(what, 10, 9 + laid.size()) ? laid.get(what - 10) : NONE;
    }

    int borne(int w, int what) {
        if (!in(w, 0, 5) || !in(what, 0, 1)) {
            return NONE;
        }
        Wall wall = world.walls.get(w);
        List<Integer> row = wall.row();
        if (!in(row.size(), 1, 14) || row.stream().anyMatch(brick -> wall.besides(brick).isEmpty())) {
            return NONE;
        }
        Map<Integer, Integer> besides = new LinkedHashMap<>();
        for (int k = 0; k < row.size(); k++) {
            int set = 0;
            for (int brick : wall.besides(row.get(k))) {
                set |= 1 << row.indexOf(brick);
            }
            besides.put(k, set);
        }
        int most = -1;
        int least = -1;
        for (int set = 0; set < 1 << row.size(); set++) {
            int replaced = set;
            boolean all = besides.values().stream().allMatch(beside -> (beside & ~replaced) != 0);
            if (all && Integer.bitCount(set) > most) {
                most = Integer.bitCount(set);
                least = set;
            }
        }
        return what == 0 ? most : least;
    }

    int spares(int w) {
        if (!in(w, 0, 5)) {
            return NONE;
        }
        Wall wall = world.walls.get(w);
        int replaced = 0;
        for (Cell cell : wall.cells()) {
            int brick = wall.bricks.get(cell);
            if (brick == NONE || !world.broken[brick]) {
                continue;
            }
            for (int spare = 0; spare < 24; spare++) {
                if (!world.broken[spare] && wall.cellOf(spare) == null) {
                    wall.bricks.put(cell, spare);
                    replaced++;
                    break;
                }
            }
        }
        return replaced;
    }

    int door(int w, int cell, int what) {
        if (!in(what, 0, 1) || at(w, cell) < 0) {
            return NONE;
        }
        Wall wall = new Wall(world.walls.get(w));
        wall.bricks.put(wall.cells().get(cell), NONE);
        int parts = 0;
        int alone = 0;
        Set<Integer> seen = new HashSet<>();
        for (int brick : wall.row()) {
            parts += seen.contains(brick) ? 0 : 1;
            alone += wall.besides(brick).isEmpty() ? 1 : 0;
            walk(wall, brick, seen);
        }
        return what == 0 ? parts : alone;
    }

    private static void walk(Wall wall, int brick, Set<Integer> seen) {
        if (seen.add(brick)) {
            for (int other : wall.besides(brick)) {
                walk(wall, other, seen);
            }
        }
    }

    private int told(Wall first, Wall second) {
        boolean secondIs = isGood(first, second);
        boolean firstIs = isGood(second, first);
        if (secondIs && firstIs) {
            return 3;
        }
        return secondIs ? 1 : firstIs ? 2 : 0;
    }

    int older(int a, int b, int what) {
        if (!in(a, 0, 5) || !in(b, 0, 5) || !in(what, 0, 1)) {
            return NONE;
        }
        Wall first = world.walls.get(a);
        Wall second = world.walls.get(b);
        int told = told(first, second);
        int tells = 0;
        for (int brick : second.row()) {
            Wall without = new Wall(second);
            without.bricks.put(without.cellOf(brick), NONE);
            tells += told(first, without) != told ? 1 : 0;
        }
        return what == 0 ? told : tells;
    }

    int red(int brick, int what) {
        if (!in(brick, 0, 23) || !in(what, 0, 1)) {
            return NONE - 1;
        }
        List<Integer> lefts = new ArrayList<>();
        for (Year year : world.history) {
            Cell cell = year.wall.cellOf(brick);
            lefts.add(cell == null ? NONE : year.wall.bricks.getOrDefault(new Cell(cell.x - 1, cell.y), NONE));
        }
        int first = lefts.isEmpty() ? NONE : lefts.get(0);
        return what == 1 ? first : first == NONE ? 0 : Collections.frequency(lefts, first);
    }

    boolean image(boolean taken) {
        if (taken) {
            image = world.copy();
        } else if (image != null) {
            world = image.copy();
        }
        return image != null;
    }

    int look(int what) {
        if (in(what, 0, 2)) {
            return new int[] {world.alike, world.bear, world.state}[what];
        }
        if (in(what, 10, 15)) {
            return world.shapes.get(what - 10).size();
        }
        if (in(what, 20, 25)) {
            return world.walls.get(what - 20).bricks.size();
        }
        return in(what, 30, 35) ? world.walls.get(what - 30).row().size() : NONE;
    }

    static final List<String> WAYS = Arrays.asList("same", "shift", "back", "snake", "pairs", "mend", "mix");
    static final List<String> VALUES = Arrays.asList("year", "cells", "bad", "kept", "met");
}
