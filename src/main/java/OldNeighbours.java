import java.util.Arrays;

/**
 * No brick without an old neighbour: walls of bricks that are put up again, year by year, and
 * who lies beside whom before and after. What each call answers stands in the document, by the
 * number of its promise.
 */
public final class OldNeighbours {
    public static final int NONE = -1;

    private static final int CANT = NONE - 1;
    private static final int SHAPES = 6;
    private static final int RULES = 3;
    private static final int WALLS = 6;
    private static final int CELLS = 24;
    private static final int BRICKS = 24;
    private static final int MARKS = 4;
    private static final int TAPE = 400;
    private static final int LAST_YEAR = 999;
    private static final int YEARS_A_CALL = 30;
    private static final int MOST_SHIFT = 99;
    private static final int MOST_ASKED_COUPLES = 12;
    private static final int MOST_TO_BEAR = 14;

    private static final int SAME = 0;
    private static final int SHIFT = 1;
    private static final int BACK = 2;
    private static final int SNAKE = 3;
    private static final int PAIRS = 4;
    private static final int MEND = 5;
    private static final int MIX = 6;
    private static final int WAYS = 7;

    private final World world = new World();
    private final World picture = new World();
    private boolean pictured;
    private final int[] tape = new int[TAPE];
    private int tapeLength;
    private final Reader reader = new Reader();
    private final Nearness nearness = new Nearness();
    private final Builder builder = new Builder();
    private final Parting parter = new Parting();
    private final Layings trials = new Layings();
    private final Sequence sequence = new Sequence();
    private final Wall lessened = new Wall();

    public OldNeighbours() {
    }

    public int state(int v) {
        int before = world.draws;
        world.draws = v;
        return before;
    }

    public int feed(int a, int b, int c, int d, int e) {
        if (tapeLength > TAPE - 20) {
            return NONE;
        }
        feedNumber(a);
        feedNumber(b);
        feedNumber(c);
        feedNumber(d);
        feedNumber(e);
        return tapeLength;
    }

    private void feedNumber(int number) {
        for (int bits = 24; bits >= 0 && tapeLength < TAPE; bits -= 8) {
            tape[tapeLength] = number >>> bits & 255;
            tapeLength++;
        }
    }

    public boolean end(int n) {
        if (n < 0 || n > tapeLength) {
            return false;
        }
        tapeLength = n;
        return true;
    }

    public int text(int k) {
        int length = tapeLength;
        tapeLength = 0;
        reader.forget();
        if (!isOf(k, SHAPES + RULES)) {
            return NONE;
        }
        if (k < SHAPES) {
            if (!reader.readShape(tape, length)) {
                return NONE;
            }
            world.forms[k] = reader.form;
            return Long.bitCount(reader.form);
        }
        if (!reader.readRule(tape, length)) {
            return NONE;
        }
        world.rules[k - SHAPES].copy(reader.draft);
        return reader.draft.lines;
    }

    public int fault(int what) {
        if (what == 0) {
            return reader.fault;
        }
        return what == 1 ? reader.faultPlace : NONE;
    }

    public int cell(int shape, int i, int what) {
        if (!isOf(shape, SHAPES) || !isOf(i, cellsOf(world.forms[shape]))) {
            return CANT;
        }
        long form = world.forms[shape];
        int place = Board.placeOf(form, i);
        switch (what) {
            case 0:
                return Board.xOf(place);
            case 1:
                return Board.yOf(place);
            case 2:
                return Long.bitCount(form & Board.around(1L << place));
            case 3:
                return Board.has(form, place - 8) ? Board.numberOf(form, place - 8) : NONE;
            default:
                return CANT;
        }
    }

    public boolean set(int what, int v) {
        if (v < 0) {
            return false;
        }
        if (what == 0 && v <= 1) {
            world.alike = v;
            return true;
        }
        if (what == 1 && v <= BRICKS) {
            world.bear = v;
            return true;
        }
        if (what >= 10 && what < 10 + BRICKS && v < MARKS) {
            world.marks[what - 10] = v;
            return true;
        }
        if (what >= 40 && what < 40 + BRICKS && v <= 1) {
            world.broken[what - 40] = v;
            return true;
        }
        return false;
    }

    public boolean wall(int w, int shape) {
        if (!isOf(w, WALLS) || !isOf(shape, SHAPES)) {
            return false;
        }
        world.walls[w].raise(world.forms[shape]);
        return true;
    }

    public boolean lay(int w, int cell, int brick) {
        if (!isOf(w, WALLS) || !isOf(cell, world.walls[w].cells)) {
            return false;
        }
        Wall wall = world.walls[w];
        if (brick != NONE && !isOf(brick, BRICKS)) {
            return false;
        }
        int already = brick == NONE ? NONE : wall.cellOf(brick);
        if (already != NONE && already != cell) {
            return false;
        }
        wall.bricks[cell] = brick;
        return true;
    }

    public boolean fill(int w, int from) {
        if (!isOf(w, WALLS)) {
            return false;
        }
        Wall wall = world.walls[w];
        if (wall.cells == 0 || from < 0 || from > BRICKS - wall.cells) {
            return false;
        }
        for (int i = 0; i < wall.cells; i++) {
            wall.bricks[i] = from + i;
        }
        return true;
    }

    public int at(int w, int cell) {
        if (!isOf(w, WALLS) || !isOf(cell, world.walls[w].cells)) {
            return CANT;
        }
        return world.walls[w].bricks[cell];
    }

    public int beside(int w, int brick) {
        if (!isOf(w, WALLS) || !isOf(brick, BRICKS)) {
            return NONE;
        }
        int cell = world.walls[w].cellOf(brick);
        return cell == NONE ? NONE : world.walls[w].besideOf(cell);
    }

    public int good(int a, int b, int what) {
        if (!isOf(a, WALLS) || !isOf(b, WALLS) || !isOf(what, 4)) {
            return CANT;
        }
        compare(world.walls[a], world.walls[b]);
        switch (what) {
            case 0:
                return nearness.badSet;
            case 1:
                return nearness.bad;
            case 2:
                return nearness.kept;
            default:
                return isBorne() ? 1 : 0;
        }
    }

    private void compare(Wall old, Wall fresh) {
        nearness.learn(old, world);
        nearness.weigh(fresh);
    }

    private boolean isGood(Wall old, Wall fresh) {
        compare(old, fresh);
        return isBorne();
    }

    /** Of the two walls that were compared last. */
    private boolean isBorne() {
        return nearness.bad <= world.bear;
    }

    public int judge(int row, int n) {
        if (n < 2 || n > 6 || row < 0) {
            return CANT;
        }
        int first = NONE;
        int rest = row;
        for (int i = n - 1; i > 0; i--) {
            int fresh = rest % WALLS;
            rest /= WALLS;
            if (!isGood(world.walls[rest % WALLS], world.walls[fresh])) {
                first = i;
            }
        }
        return rest < WALLS ? first : CANT;
    }

    public int again(int a, int b, int shape, int way, int by) {
        if (!isOf(a, WALLS) || !isOf(b, WALLS) || !isOf(shape, SHAPES) || !isOf(way, WAYS)) {
            return NONE;
        }
        if (world.forms[shape] == 0 || way == SHIFT && !isOf(by, MOST_SHIFT + 1)) {
            return NONE;
        }
        int left = builder.putUp(world, world.walls[a], world.forms[shape], way, by);
        world.walls[b].copy(builder.fresh);
        return left;
    }

    public int years(int rule, int shape, int n) {
        if (!isOf(rule, RULES) || !isOf(shape, SHAPES) || n < 1 || n > YEARS_A_CALL) {
            return NONE;
        }
        long form = world.forms[shape];
        if (form == 0 || world.walls[0].bricksIn() == 0 || world.year + n > LAST_YEAR) {
            return NONE;
        }
        int good = 0;
        for (int i = 0; i < n; i++) {
            good += passYear(world.rules[rule], form);
        }
        return good;
    }

    private int passYear(Rule rule, long form) {
        Wall wall = world.walls[0];
        builder.putUp(world, wall, form, SAME, 0);
        compare(wall, builder.fresh);
        int line = rule.lineFor(world.year, builder.fresh.cells, nearness.bad, nearness.kept, world.met);
        if (line != NONE) {
            builder.putUp(world, wall, form, rule.wayOf(line), rule.byOf(line));
            compare(wall, builder.fresh);
        }
        wall.copy(builder.fresh);
        int good = isBorne() ? 1 : 0;
        world.history.keepYear(wall, nearness.bad, nearness.kept, good);
        world.meet(wall);
        world.year++;
        return good;
    }

    public int history(int i, int what) {
        if (!isOf(i, world.history.years)) {
            return NONE;
        }
        switch (what) {
            case 0:
                return world.history.bad[i];
            case 1:
                return world.history.kept[i];
            case 2:
                return world.history.good[i];
            case 3:
                return world.history.couplesIn(i);
            default:
                return NONE;
        }
    }

    public int met(int what) {
        switch (what) {
            case 0:
                return world.met;
            case 1:
                return world.neverMet();
            case 2:
                return world.history.always();
            case 3:
                return soonest(world.walls[0]);
            case 4:
                return world.year;
            case 5:
                return world.history.years;
            default:
                return NONE;
        }
    }

    private static int soonest(Wall wall) {
        int touching = wall.touchingCouples();
        if (touching == 0) {
            return NONE;
        }
        int bricks = wall.bricksIn();
        return (bricks * (bricks - 1) / 2 + touching - 1) / touching;
    }

    public int two(int a, int b, int what) {
        if (!isOf(a, BRICKS) || !isOf(b, BRICKS) || a == b) {
            return CANT;
        }
        switch (what) {
            case 0:
                return world.firstOf(a, b);
            case 1:
                return world.history.apart(a, b);
            case 2:
                return world.firstOf(a, b) == NONE ? 0 : 1;
            default:
                return CANT;
        }
    }

    public int parting(int shape, int c) {
        if (!isOf(shape, SHAPES) || world.forms[shape] == 0 || c < NONE || c > MOST_ASKED_COUPLES) {
            return NONE;
        }
        if (c == NONE) {
            return parter.mostCouples(world.forms[shape]);
        }
        return parter.couplesSet(world.forms[shape]) >>> c & 1;
    }

    public int layings(int a, int shape, int what) {
        if (!isOf(a, WALLS) || !isOf(shape, SHAPES)) {
            return NONE;
        }
        Wall old = world.walls[a];
        int bricks = old.bricksIn();
        if (bricks == 0 || bricks > Layings.MOST || cellsOf(world.forms[shape]) != bricks) {
            return NONE;
        }
        boolean asksBrick = what >= 10 && what < 10 + bricks;
        if (!asksBrick && !isOf(what, 3)) {
            return NONE;
        }
        trials.tryAll(world, old, world.forms[shape]);
        if (asksBrick) {
            return trials.best[what - 10];
        }
        if (what == 0) {
            return trials.fewestBad;
        }
        return what == 1 ? trials.mostKept : trials.good;
    }

    public int order(int a, int b, int what) {
        if (!isOf(a, WALLS) || !isOf(b, WALLS)) {
            return NONE;
        }
        nearness.learn(world.walls[a], world);
        sequence.build(world.walls[b], nearness);
        if (what == 0) {
            return sequence.starts;
        }
        return what >= 10 && what < 10 + sequence.laid ? sequence.bricks[what - 10] : NONE;
    }

    public int borne(int w, int what) {
        if (!isOf(w, WALLS) || !isOf(what, 2)) {
            return NONE;
        }
        long filled = world.walls[w].filledPlaces();
        int bricks = Long.bitCount(filled);
        if (bricks == 0 || bricks > MOST_TO_BEAR || Board.lonelyOf(filled) > 0) {
            return NONE;
        }
        int replaced = Board.mostReplaced(filled, bricks);
        return what == 0 ? Integer.bitCount(replaced) : replaced;
    }

    public int spares(int w) {
        if (!isOf(w, WALLS)) {
            return NONE;
        }
        Wall wall = world.walls[w];
        int replaced = 0;
        int spare = 0;
        for (int i = 0; i < wall.cells; i++) {
            if (!isBroken(wall.bricks[i])) {
                continue;
            }
            spare = spareFrom(wall, spare);
            if (spare == BRICKS) {
                break;
            }
            wall.bricks[i] = spare;
            replaced++;
        }
        return replaced;
    }

    private boolean isBroken(int brick) {
        return isOf(brick, BRICKS) && world.broken[brick] == 1;
    }

    private int spareFrom(Wall wall, int from) {
        int spare = from;
        while (spare < BRICKS && (isBroken(spare) || wall.cellOf(spare) != NONE)) {
            spare++;
        }
        return spare;
    }

    public int door(int w, int cell, int what) {
        if (!isOf(w, WALLS) || !isOf(cell, world.walls[w].cells) || !isOf(what, 2)) {
            return NONE;
        }
        Wall wall = world.walls[w];
        if (wall.bricks[cell] == NONE) {
            return NONE;
        }
        long standing = wall.filledPlaces() & ~(1L << wall.places[cell]);
        return what == 0 ? Board.partsOf(standing) : Board.lonelyOf(standing);
    }

    public int older(int a, int b, int what) {
        if (!isOf(a, WALLS) || !isOf(b, WALLS) || !isOf(what, 2)) {
            return NONE;
        }
        int told = tellOlder(world.walls[a], world.walls[b]);
        return what == 0 ? told : countTelling(world.walls[a], world.walls[b], told);
    }

    private int tellOlder(Wall first, Wall second) {
        int told = isGood(first, second) ? 1 : 0;
        return isGood(second, first) ? told + 2 : told;
    }

    private int countTelling(Wall first, Wall second, int told) {
        lessened.copy(second);
        int telling = 0;
        for (int i = 0; i < lessened.cells; i++) {
            int brick = lessened.bricks[i];
            if (brick == NONE) {
                continue;
            }
            lessened.bricks[i] = NONE;
            if (tellOlder(first, lessened) != told) {
                telling++;
            }
            lessened.bricks[i] = brick;
        }
        return telling;
    }

    public int red(int brick, int what) {
        if (!isOf(brick, BRICKS) || !isOf(what, 2)) {
            return CANT;
        }
        int left = world.history.leftOf(0, brick);
        return what == 1 ? left : world.history.yearsWithLeft(brick, left);
    }

    public boolean image(boolean taken) {
        if (taken) {
            picture.copy(world);
            pictured = true;
            return true;
        }
        if (pictured) {
            world.copy(picture);
        }
        return pictured;
    }

    public int look(int what) {
        if (what == 0) {
            return world.alike;
        }
        if (what == 1) {
            return world.bear;
        }
        if (what == 2) {
            return world.draws;
        }
        if (what >= 10 && what < 10 + SHAPES) {
            return cellsOf(world.forms[what - 10]);
        }
        if (what >= 20 && what < 20 + WALLS) {
            return world.walls[what - 20].cells;
        }
        if (what >= 30 && what < 30 + WALLS) {
            return world.walls[what - 30].bricksIn();
        }
        return NONE;
    }

    private static boolean isOf(int number, int count) {
        return number >= 0 && number < count;
    }

    private static int cellsOf(long form) {
        return Math.min(Long.bitCount(form), CELLS);
    }

    /** Sets of places on the board of 8 times 8, as bits 8 * y + x: cells are numbered by bits. */
    private static final class Board {
        private static final int PLACES = 64;
        private static final long FIRST_COLUMN = 0x0101010101010101L;
        private static final long LAST_COLUMN = 0x8080808080808080L;

        private static int xOf(int place) {
            return place & 7;
        }

        private static int yOf(int place) {
            return place >> 3;
        }

        private static boolean has(long set, int place) {
            return place >= 0 && place < PLACES && (set >>> place & 1L) != 0;
        }

        private static int numberOf(long set, int place) {
            return Long.bitCount(set & (1L << place) - 1);
        }

        private static int placeOf(long set, int number) {
            int left = number;
            for (int place = 0; place < PLACES; place++) {
                if (has(set, place) && left-- == 0) {
                    return place;
                }
            }
            return 0;
        }

        private static long rightOf(long set) {
            return (set & ~LAST_COLUMN) << 1;
        }

        private static long around(long set) {
            return rightOf(set) | (set & ~FIRST_COLUMN) >>> 1 | set << 8 | set >>> 8;
        }

        private static int partsOf(long set) {
            int parts = 0;
            long rest = set;
            for (int i = 0; i < PLACES && rest != 0; i++) {
                rest &= ~hangingTogether(rest, rest & -rest);
                parts++;
            }
            return parts;
        }

        private static long hangingTogether(long set, long start) {
            long part = start;
            for (int i = 0; i < PLACES; i++) {
                long wider = part | around(part) & set;
                if (wider == part) {
                    break;
                }
                part = wider;
            }
            return part;
        }

        private static int lonelyOf(long set) {
            return Long.bitCount(set & ~around(set));
        }

        /**
         * Subsets of places come here in the order of the numbers that tell them, so that the
         * i-th one is told by i, and the first of the most is the least.
         */
        private static int mostReplaced(long filled, int bricks) {
            int best = 0;
            int most = 0;
            long replaced = 0;
            for (int i = 0; i < 1 << bricks; i++) {
                if (Integer.bitCount(i) > most && (filled & ~around(filled & ~replaced)) == 0) {
                    best = i;
                    most = Integer.bitCount(i);
                }
                replaced = replaced - filled & filled;
            }
            return best;
        }
    }

    /** A form as it was when the wall was raised, and a brick or none in each of its cells. */
    private static final class Wall {
        private static final int RIGHT = 0;
        private static final int LEFT = 1;
        private static final int ABOVE = 2;
        private static final int BELOW = 3;
        private static final int SIDES = 4;

        private long form;
        private int cells;
        private final int[] bricks = new int[CELLS];
        private final int[] places = new int[CELLS];
        /** By cell, then side: the cell that touches it there, or NONE. */
        private final int[] touching = new int[CELLS * SIDES];

        private Wall() {
            raise(0L);
        }

        private void raise(long newForm) {
            form = newForm;
            cells = 0;
            Arrays.fill(bricks, NONE);
            Arrays.fill(touching, NONE);
            for (int place = 0; place < Board.PLACES && cells < CELLS; place++) {
                if (Board.has(form, place)) {
                    places[cells] = place;
                    cells++;
                }
            }
            for (int i = 0; i < cells; i++) {
                int place = places[i];
                touching[i * SIDES + RIGHT] = Board.xOf(place) < 7 ? cellAt(place + 1) : NONE;
                touching[i * SIDES + LEFT] = Board.xOf(place) > 0 ? cellAt(place - 1) : NONE;
                touching[i * SIDES + ABOVE] = cellAt(place + 8);
                touching[i * SIDES + BELOW] = cellAt(place - 8);
            }
        }

        private int cellAt(int place) {
            if (!Board.has(form, place)) {
                return NONE;
            }
            int number = Board.numberOf(form, place);
            return number < cells ? number : NONE;
        }

        private void copy(Wall other) {
            form = other.form;
            cells = other.cells;
            System.arraycopy(other.bricks, 0, bricks, 0, CELLS);
            System.arraycopy(other.places, 0, places, 0, CELLS);
            System.arraycopy(other.touching, 0, touching, 0, CELLS * SIDES);
        }

        private int brickIn(int cell) {
            return cell >= 0 && cell < cells ? bricks[cell] : NONE;
        }

        private int cellBeside(int cell, int side) {
            return isOf(cell, cells) && isOf(side, SIDES) ? touching[cell * SIDES + side] : NONE;
        }

        private int besideOf(int cell) {
            int set = 0;
            for (int side = 0; side < SIDES && cell >= 0 && cell < cells; side++) {
                int other = touching[cell * SIDES + side];
                if (other >= 0 && other < cells && bricks[other] != NONE) {
                    set |= 1 << bricks[other];
                }
            }
            return set;
        }

        private int cellOf(int brick) {
            for (int i = 0; i < cells; i++) {
                if (bricks[i] == brick) {
                    return i;
                }
            }
            return NONE;
        }

        private int bricksIn() {
            int count = 0;
            for (int i = 0; i < cells; i++) {
                if (bricks[i] != NONE) {
                    count++;
                }
            }
            return count;
        }

        private int touchingCouples() {
            int count = 0;
            for (int i = 0; i < cells; i++) {
                count += cellBeside(i, RIGHT) == NONE ? 0 : 1;
                count += cellBeside(i, ABOVE) == NONE ? 0 : 1;
            }
            return count;
        }

        private long filledPlaces() {
            long set = 0;
            for (int i = 0; i < cells; i++) {
                if (bricks[i] != NONE) {
                    set |= 1L << places[i];
                }
            }
            return set;
        }

        private void exchange(int i, int j) {
            if (isOf(i, cells) && isOf(j, cells)) {
                int brick = bricks[i];
                bricks[i] = bricks[j];
                bricks[j] = brick;
            }
        }

        /** As a set of cells. */
        private int withTouching(int cell) {
            if (!isOf(cell, cells)) {
                return 0;
            }
            int set = 1 << cell;
            for (int side = 0; side < SIDES; side++) {
                int other = touching[cell * SIDES + side];
                set |= other == NONE ? 0 : 1 << other;
            }
            return set;
        }
    }

    /** All that the image keeps. */
    private static final class World {
        private int draws;
        private int alike;
        private int bear;
        private int year;
        private int met;
        private final int[] marks = new int[BRICKS];
        private final int[] broken = new int[BRICKS];
        private final long[] forms = new long[SHAPES];
        private final Wall[] walls = new Wall[WALLS];
        private final Rule[] rules = new Rule[RULES];
        private final int[] firsts = new int[BRICKS * BRICKS];
        private final History history = new History();

        private World() {
            for (int i = 0; i < WALLS; i++) {
                walls[i] = new Wall();
            }
            for (int i = 0; i < RULES; i++) {
                rules[i] = new Rule();
            }
            Arrays.fill(firsts, NONE);
        }

        private void copy(World other) {
            draws = other.draws;
            alike = other.alike;
            bear = other.bear;
            year = other.year;
            met = other.met;
            System.arraycopy(other.marks, 0, marks, 0, BRICKS);
            System.arraycopy(other.broken, 0, broken, 0, BRICKS);
            System.arraycopy(other.forms, 0, forms, 0, SHAPES);
            for (int i = 0; i < WALLS; i++) {
                walls[i].copy(other.walls[i]);
            }
            for (int i = 0; i < RULES; i++) {
                rules[i].copy(other.rules[i]);
            }
            System.arraycopy(other.firsts, 0, firsts, 0, BRICKS * BRICKS);
            history.copy(other.history);
        }

        private int draw(int m) {
            draws = 1664525 * draws + 1013904223;
            return m < 1 ? 0 : (draws >>> 8) % m;
        }

        private int firstOf(int a, int b) {
            if (!isOf(a, BRICKS) || !isOf(b, BRICKS)) {
                return NONE;
            }
            return firsts[Math.min(a, b) * BRICKS + Math.max(a, b)];
        }

        private void meet(Wall wall) {
            for (int i = 0; i < wall.cells; i++) {
                meetBoth(wall.bricks[i], wall.brickIn(wall.cellBeside(i, Wall.RIGHT)));
                meetBoth(wall.bricks[i], wall.brickIn(wall.cellBeside(i, Wall.ABOVE)));
            }
        }

        private void meetBoth(int a, int b) {
            if (isOf(a, BRICKS) && isOf(b, BRICKS) && firstOf(a, b) == NONE) {
                firsts[Math.min(a, b) * BRICKS + Math.max(a, b)] = year;
                met++;
            }
        }

        private int neverMet() {
            int count = 0;
            for (int i = 0; i < walls[0].cells; i++) {
                for (int j = i + 1; j < walls[0].cells; j++) {
                    int a = walls[0].bricks[i];
                    int b = walls[0].bricks[j];
                    if (a != NONE && b != NONE && firstOf(a, b) == NONE) {
                        count++;
                    }
                }
            }
            return count;
        }
    }

    /** The first years of wall 0, as rows of bricks a year. */
    private static final class History {
        private static final int MOST = 60;

        private int years;
        private final int[] bad = new int[MOST];
        private final int[] kept = new int[MOST];
        private final int[] good = new int[MOST];
        private final int[] besides = new int[MOST * BRICKS];
        private final int[] lefts = new int[MOST * BRICKS];

        private void copy(History other) {
            years = other.years;
            System.arraycopy(other.bad, 0, bad, 0, MOST);
            System.arraycopy(other.kept, 0, kept, 0, MOST);
            System.arraycopy(other.good, 0, good, 0, MOST);
            System.arraycopy(other.besides, 0, besides, 0, MOST * BRICKS);
            System.arraycopy(other.lefts, 0, lefts, 0, MOST * BRICKS);
        }

        private void keepYear(Wall wall, int howManyBad, int howManyKept, int isGood) {
            if (years >= MOST) {
                return;
            }
            bad[years] = howManyBad;
            kept[years] = howManyKept;
            good[years] = isGood;
            int row = years * BRICKS;
            Arrays.fill(besides, row, row + BRICKS, 0);
            Arrays.fill(lefts, row, row + BRICKS, NONE);
            for (int i = 0; i < wall.cells; i++) {
                int brick = wall.bricks[i];
                if (isOf(brick, BRICKS)) {
                    besides[row + brick] = wall.besideOf(i);
                    lefts[row + brick] = wall.brickIn(wall.cellBeside(i, Wall.LEFT));
                }
            }
            years++;
        }

        private int couplesIn(int year) {
            int twice = 0;
            for (int brick = 0; brick < BRICKS && isOf(year, years); brick++) {
                twice += Integer.bitCount(besides[year * BRICKS + brick]);
            }
            return twice / 2;
        }

        private int always() {
            int twice = 0;
            for (int brick = 0; brick < BRICKS && years > 0; brick++) {
                int set = besides[brick];
                for (int year = 1; year < years; year++) {
                    set &= besides[year * BRICKS + brick];
                }
                twice += Integer.bitCount(set);
            }
            return twice / 2;
        }

        private int apart(int a, int b) {
            int longest = 0;
            int row = 0;
            for (int year = 0; year < years && isOf(a, BRICKS); year++) {
                row = (besides[year * BRICKS + a] >>> b & 1) == 0 ? row + 1 : 0;
                longest = Math.max(longest, row);
            }
            return longest;
        }

        private int leftOf(int year, int brick) {
            return isOf(year, years) && isOf(brick, BRICKS) ? lefts[year * BRICKS + brick] : NONE;
        }

        private int yearsWithLeft(int brick, int left) {
            int count = 0;
            for (int year = 0; year < years && left != NONE; year++) {
                if (leftOf(year, brick) == left) {
                    count++;
                }
            }
            return count;
        }
    }

    /** Who is bad and what is kept in a new wall, from an old one that has been learned. */
    private static final class Nearness {
        /** More than all couples twice, so that one bad brick weighs more than all that is kept. */
        private static final int WEIGHT_OF_BAD = 1024;

        private final int[] oldBeside = new int[BRICKS];
        private final int[] marked = new int[MARKS];
        private boolean alike;
        private int badSet;
        private int bad;
        private int kept;

        private void learn(Wall old, World world) {
            Arrays.fill(oldBeside, 0);
            for (int i = 0; i < old.cells; i++) {
                if (isOf(old.bricks[i], BRICKS)) {
                    oldBeside[old.bricks[i]] = old.besideOf(i);
                }
            }
            alike = world.alike == 1;
            Arrays.fill(marked, 0);
            for (int k = 0; k < BRICKS; k++) {
                if (isOf(world.marks[k], MARKS)) {
                    marked[world.marks[k]] |= 1 << k;
                }
            }
        }

        private void weigh(Wall fresh) {
            badSet = 0;
            int twice = 0;
            for (int i = 0; i < fresh.cells; i++) {
                int brick = fresh.bricks[i];
                if (isOf(brick, BRICKS)) {
                    int now = fresh.besideOf(i);
                    twice += Integer.bitCount(now & oldBeside[brick]);
                    badSet |= isNear(now, oldBeside[brick]) ? 0 : 1 << brick;
                }
            }
            bad = Integer.bitCount(badSet);
            kept = twice / 2;
        }

        /** The lesser the better: a sum of these compares by bad ones, then by kept ones. */
        private int weightOf(Wall fresh, int cell) {
            int brick = fresh.brickIn(cell);
            if (!isOf(brick, BRICKS)) {
                return 0;
            }
            int now = fresh.besideOf(cell);
            int weight = isNear(now, oldBeside[brick]) ? 0 : WEIGHT_OF_BAD;
            return weight - Integer.bitCount(now & oldBeside[brick]);
        }

        private boolean isNear(int now, int before) {
            if ((now & before) != 0) {
                return true;
            }
            for (int k = 0; k < MARKS && alike; k++) {
                if ((now & marked[k]) != 0 && (before & marked[k]) != 0) {
                    return true;
                }
            }
            return false;
        }
    }

    /** Puts a wall up again; what comes of it stands in fresh, so that a wall can become itself. */
    private static final class Builder {
        private static final int MOST_COUPLES = CELLS / 2;
        /** Each exchange has fewer bad ones (24) or more kept ones (38 at most). */
        private static final int MOST_EXCHANGES = 1000;

        private final Wall old = new Wall();
        private final Wall fresh = new Wall();
        private final Nearness near = new Nearness();
        private final int[] row = new int[CELLS];
        private int bricks;
        private final int[] lesser = new int[MOST_COUPLES];
        private final int[] greater = new int[MOST_COUPLES];
        private final int[] oldLesser = new int[MOST_COUPLES];
        private final int[] oldGreater = new int[MOST_COUPLES];
        private final int[] weights = new int[CELLS];

        private int putUp(World world, Wall from, long form, int way, int by) {
            old.copy(from);
            fresh.raise(form);
            gather();
            if (way == PAIRS) {
                layPairs();
            } else {
                layInRow(way, by);
            }
            if (way == MEND) {
                mend(world);
            }
            if (way == MIX) {
                mix(world);
            }
            return Math.max(0, bricks - fresh.cells);
        }

        private void gather() {
            bricks = 0;
            for (int i = 0; i < old.cells; i++) {
                if (old.bricks[i] != NONE && bricks < CELLS) {
                    row[bricks] = old.bricks[i];
                    bricks++;
                }
            }
        }

        private void layInRow(int way, int by) {
            for (int i = 0; i < bricks && i < fresh.cells; i++) {
                int cell = targetOf(i, way, by);
                if (isOf(cell, fresh.cells)) {
                    fresh.bricks[cell] = row[i];
                }
            }
        }

        private int targetOf(int i, int way, int by) {
            switch (way) {
                case SHIFT:
                    return Math.floorMod(i + by, Math.max(1, fresh.cells));
                case BACK:
                    return fresh.cells - 1 - i;
                case SNAKE:
                    return snakeCell(i);
                default:
                    return i;
            }
        }

        /** The i-th cell of the snake lies in the row of cell i, since rows are whole there, too. */
        private int snakeCell(int i) {
            int y = Board.yOf(fresh.places[i]);
            if (y % 2 == 0) {
                return i;
            }
            int start = Long.bitCount(fresh.form & (1L << 8 * y) - 1);
            int inRow = Long.bitCount(fresh.form >>> 8 * y & 255L);
            return 2 * start + inRow - 1 - i;
        }

        private void layPairs() {
            int oldCouples = couple(old, old.filledPlaces(), oldLesser, oldGreater);
            int newCouples = couple(fresh, fresh.form, lesser, greater);
            int laid = 0;
            for (int k = 0; k < oldCouples && k < newCouples; k++) {
                fresh.bricks[lesser[k]] = old.bricks[oldLesser[k]];
                fresh.bricks[greater[k]] = old.bricks[oldGreater[k]];
                laid |= 1 << oldLesser[k] | 1 << oldGreater[k];
            }
            int cell = 0;
            for (int i = 0; i < old.cells; i++) {
                if (old.bricks[i] == NONE || (laid >>> i & 1) != 0) {
                    continue;
                }
                while (cell < fresh.cells && fresh.bricks[cell] != NONE) {
                    cell++;
                }
                if (cell < fresh.cells) {
                    fresh.bricks[cell] = old.bricks[i];
                }
            }
        }

        private static int couple(Wall wall, long among, int[] first, int[] second) {
            int count = 0;
            int taken = 0;
            for (int i = 0; i < wall.cells && count < MOST_COUPLES; i++) {
                if ((taken >>> i & 1) != 0 || !Board.has(among, wall.places[i])) {
                    continue;
                }
                int other = freeOf(wall, among, taken, wall.cellBeside(i, Wall.RIGHT));
                if (other == NONE) {
                    other = freeOf(wall, among, taken, wall.cellBeside(i, Wall.ABOVE));
                }
                if (other != NONE) {
                    taken |= 1 << i | 1 << other;
                    first[count] = i;
                    second[count] = other;
                    count++;
                }
            }
            return count;
        }

        private static int freeOf(Wall wall, long among, int taken, int cell) {
            if (!isOf(cell, wall.cells) || (taken >>> cell & 1) != 0) {
                return NONE;
            }
            return Board.has(among, wall.places[cell]) ? cell : NONE;
        }

        private void mend(World world) {
            near.learn(old, world);
            boolean better = true;
            for (int i = 0; i < MOST_EXCHANGES && better; i++) {
                for (int cell = 0; cell < fresh.cells; cell++) {
                    weights[cell] = near.weightOf(fresh, cell);
                }
                better = exchangeFirst();
            }
        }

        private boolean exchangeFirst() {
            for (int i = 0; i < fresh.cells; i++) {
                int nearFirst = fresh.withTouching(i);
                for (int j = i + 1; j < fresh.cells; j++) {
                    boolean bothEmpty = fresh.bricks[i] == NONE && fresh.bricks[j] == NONE;
                    if (!bothEmpty && isBetterExchanged(i, j, nearFirst | fresh.withTouching(j))) {
                        return true;
                    }
                }
            }
            return false;
        }

        /** Only cells that are exchanged, and those that touch them, weigh otherwise then. */
        private boolean isBetterExchanged(int i, int j, int touched) {
            fresh.exchange(i, j);
            int more = 0;
            for (int cell = 0; cell < fresh.cells; cell++) {
                if ((touched >>> cell & 1) != 0) {
                    more += near.weightOf(fresh, cell) - weights[cell];
                }
            }
            if (more < 0) {
                return true;
            }
            fresh.exchange(i, j);
            return false;
        }

        private void mix(World world) {
            for (int i = fresh.cells - 1; i > 0; i--) {
                fresh.exchange(i, world.draw(i + 1));
            }
        }
    }

    /** Parts sets of places; what has been found out of a rest is kept, since rests come again. */
    private static final class Parting {
        private static final int BITS = 13;
        private static final int SLOTS = 1 << BITS;
        private static final int TRIES = 8;
        private static final long SPREAD = 0x9E3779B97F4A7C15L;

        private final long[] rests = new long[SLOTS];
        private final int[] answers = new int[SLOTS];

        /** Bit c is set, if the form can be parted into c couples and else threes. */
        private int couplesSet(long form) {
            Arrays.fill(rests, 0L);
            return splits(form, 0);
        }

        private int mostCouples(long form) {
            Arrays.fill(rests, 0L);
            return most(form, 0);
        }

        private int splits(long rest, int depth) {
            if (rest == 0 || depth > CELLS) {
                return rest == 0 ? 1 : 0;
            }
            int known = slotOf(rest);
            if (rests[known] == rest) {
                return answers[known];
            }
            long cell = rest & -rest;
            long right = Board.rightOf(cell);
            int found = splitsAlong(rest, cell, right, Board.rightOf(right), depth);
            found |= splitsAlong(rest, cell, cell << 8, cell << 16, depth);
            keep(rest, found);
            return found;
        }

        private int splitsAlong(long rest, long cell, long second, long third, int depth) {
            if ((rest & second) == 0) {
                return 0;
            }
            int found = splits(rest & ~cell & ~second, depth + 1) << 1;
            if ((rest & third) != 0) {
                found |= splits(rest & ~cell & ~second & ~third, depth + 1);
            }
            return found;
        }

        /** Who touches none is in no couple; the least of all others can be coupled without a loss. */
        private int most(long all, int depth) {
            long rest = all & Board.around(all);
            if (rest == 0 || depth > CELLS) {
                return 0;
            }
            int known = slotOf(rest);
            if (rests[known] == rest) {
                return answers[known];
            }
            long cell = rest & -rest;
            int found = mostWith(rest, cell, Board.rightOf(cell), depth);
            found = Math.max(found, mostWith(rest, cell, cell << 8, depth));
            keep(rest, found);
            return found;
        }

        private int mostWith(long rest, long cell, long other, int depth) {
            return (rest & other) == 0 ? 0 : 1 + most(rest & ~cell & ~other, depth + 1);
        }

        private void keep(long rest, int found) {
            int slot = slotOf(rest);
            rests[slot] = rest;
            answers[slot] = found;
        }

        private int slotOf(long rest) {
            int slot = (int) (rest * SPREAD >>> 64 - BITS);
            for (int i = 0; i < TRIES && rests[slot] != rest && rests[slot] != 0; i++) {
                slot = slot + 1 & SLOTS - 1;
            }
            return slot;
        }
    }

    /** All layings of a few bricks, lesser rows first, so that the first best one stays. */
    private static final class Layings {
        private static final int MOST = 7;

        private final Wall fresh = new Wall();
        private final Nearness near = new Nearness();
        private final int[] row = new int[MOST];
        private final int[] best = new int[MOST];
        private int bricks;
        private int bear;
        private int fewestBad;
        private int keptOfBest;
        private int mostKept;
        private int good;

        private void tryAll(World world, Wall old, long form) {
            near.learn(old, world);
            bear = world.bear;
            fresh.raise(form);
            bricks = 0;
            for (int brick = 0; brick < BRICKS; brick++) {
                if (bricks < MOST && old.cellOf(brick) != NONE) {
                    row[bricks] = brick;
                    bricks++;
                }
            }
            fewestBad = BRICKS + 1;
            keptOfBest = 0;
            mostKept = 0;
            good = 0;
            layFrom(0, 0);
        }

        private void layFrom(int cell, int used) {
            if (cell < bricks && cell < fresh.cells) {
                layEach(cell, used);
            } else {
                note();
            }
        }

        private void layEach(int cell, int used) {
            for (int i = 0; i < bricks; i++) {
                if ((used >>> i & 1) == 0) {
                    fresh.bricks[cell] = row[i];
                    layFrom(cell + 1, used | 1 << i);
                }
            }
        }

        private void note() {
            near.weigh(fresh);
            mostKept = Math.max(mostKept, near.kept);
            if (near.bad <= bear) {
                good++;
            }
            if (near.bad < fewestBad || near.bad == fewestBad && near.kept > keptOfBest) {
                fewestBad = near.bad;
                keptOfBest = near.kept;
                System.arraycopy(fresh.bricks, 0, best, 0, MOST);
            }
        }
    }

    /** The order of laying from below. */
    private static final class Sequence {
        private final int[] bricks = new int[BRICKS];
        private int laid;
        private int starts;
        private int laidBricks;
        private int laidCells;

        private void build(Wall wall, Nearness old) {
            laid = 0;
            starts = 0;
            laidBricks = 0;
            laidCells = 0;
            int all = wall.bricksIn();
            for (int i = 0; i < all; i++) {
                int cell = nextOf(wall, old, false);
                if (cell == NONE) {
                    starts++;
                    cell = nextOf(wall, old, true);
                }
                add(wall.brickIn(cell), cell);
            }
        }

        private int nextOf(Wall wall, Nearness old, boolean asStart) {
            for (int i = 0; i < wall.cells; i++) {
                int brick = wall.bricks[i];
                if (!isOf(brick, BRICKS) || (laidCells >>> i & 1) != 0 || !rests(wall, i)) {
                    continue;
                }
                if (asStart || (wall.besideOf(i) & laidBricks & old.oldBeside[brick]) != 0) {
                    return i;
                }
            }
            return NONE;
        }

        private boolean rests(Wall wall, int cell) {
            int below = wall.cellBeside(cell, Wall.BELOW);
            return wall.brickIn(below) == NONE || (laidCells >>> below & 1) != 0;
        }

        private void add(int brick, int cell) {
            if (isOf(brick, BRICKS) && laid < BRICKS) {
                bricks[laid] = brick;
                laid++;
                laidBricks |= 1 << brick;
                laidCells |= 1 << cell;
            }
        }
    }

    /** The lines of a rule; what a line asks stands in codes, its signs behind what they join. */
    private static final class Rule {
        private static final int MOST_LINES = 16;
        private static final int VALUES = 5;
        /** Two wait for an or and an and, in and around each of the 8 that can be open; four in a comparison. */
        private static final int STACK = 32;

        private int lines;
        private final int[] ways = new int[MOST_LINES];
        private final int[] bys = new int[MOST_LINES];
        private final int[] starts = new int[MOST_LINES];
        private final int[] ends = new int[MOST_LINES];
        private int length;
        /** A number is itself, all else the kind of its token below 0. */
        private final int[] codes = new int[TAPE];
        private final int[] values = new int[VALUES];
        private final int[] stack = new int[STACK];
        private int top;

        private void copy(Rule other) {
            lines = other.lines;
            length = other.length;
            System.arraycopy(other.ways, 0, ways, 0, MOST_LINES);
            System.arraycopy(other.bys, 0, bys, 0, MOST_LINES);
            System.arraycopy(other.starts, 0, starts, 0, MOST_LINES);
            System.arraycopy(other.ends, 0, ends, 0, MOST_LINES);
            System.arraycopy(other.codes, 0, codes, 0, TAPE);
        }

        private void clear() {
            lines = 0;
            length = 0;
        }

        private void open(int way, int by) {
            if (lines < MOST_LINES) {
                ways[lines] = way;
                bys[lines] = by;
                starts[lines] = length;
            }
        }

        private void close() {
            if (lines < MOST_LINES) {
                ends[lines] = length;
                lines++;
            }
        }

        private void write(int code) {
            if (length < TAPE) {
                codes[length] = code;
                length++;
            }
        }

        private int wayOf(int line) {
            return isOf(line, lines) ? ways[line] : SAME;
        }

        private int byOf(int line) {
            return isOf(line, lines) ? bys[line] : 0;
        }

        private int lineFor(int year, int cells, int bad, int kept, int met) {
            values[0] = year;
            values[1] = cells;
            values[2] = bad;
            values[3] = kept;
            values[4] = met;
            for (int line = 0; line < lines; line++) {
                if (starts[line] == ends[line] || holds(starts[line], ends[line])) {
                    return line;
                }
            }
            return NONE;
        }

        private boolean holds(int start, int end) {
            top = 0;
            for (int i = start; i < end && i < TAPE; i++) {
                int code = codes[i];
                int value = -code - Tokens.YEAR;
                if (code >= 0) {
                    push(code);
                } else if (isOf(value, VALUES)) {
                    push(values[value]);
                } else if (-code == Tokens.NOT) {
                    push(1 - pop());
                } else {
                    int second = pop();
                    push(joined(-code, pop(), second));
                }
            }
            return pop() != 0;
        }

        private void push(int value) {
            if (top < STACK) {
                stack[top] = value;
                top++;
            }
        }

        private int pop() {
            if (top == 0) {
                return 0;
            }
            top--;
            return stack[top];
        }

        private static int joined(int sign, int a, int b) {
            switch (sign) {
                case '+':
                    return a + b;
                case '-':
                    return a - b;
                case '*':
                    return a * b;
                case '/':
                    return b == 0 ? 0 : a / b;
                case '<':
                    return a < b ? 1 : 0;
                case '=':
                    return a == b ? 1 : 0;
                case '>':
                    return a > b ? 1 : 0;
                case Tokens.AND:
                    return a & b;
                default:
                    return a | b;
            }
        }
    }

    /** A text cut into tokens; a sign is its own kind. */
    private static final class Tokens {
        private static final int END = 0;
        private static final int UNKNOWN = 1;
        private static final int NUMBER = 2;
        private static final int CELL = 256;
        private static final int ROW = 257;
        private static final int PILE = 258;
        private static final int HOLE = 259;
        private static final int FIRST_WAY = 260;
        private static final int WHEN = 267;
        private static final int OR = 268;
        private static final int AND = 269;
        private static final int NOT = 270;
        private static final int YEAR = 271;
        private static final int MET = 275;
        /** Of six signs each, the last one blank; kinds from CELL on go through them. */
        private static final String WORDS =
                "cell  row   pile  hole  same  shift back  snake pairs mend  mix   when  or    and   not   year  cells bad   kept  met   ";
        private static final int WORD = 6;
        private static final String SIGNS = ";+-*/()<=>";
        private static final int MOST_DIGITS = 4;

        private final int[] kinds = new int[TAPE + 1];
        private final int[] places = new int[TAPE + 1];
        private final int[] values = new int[TAPE + 1];
        private int count;
        private int at;
        private int kind;
        private int place;
        private int value;

        private void cut(int[] tape, int length) {
            count = 0;
            int wide = 1;
            for (int i = 0; i < length && i < tape.length; i += wide) {
                wide = Math.max(1, runFrom(tape, length, i));
                int sign = tape[i];
                if (isLetter(sign)) {
                    add(wordOf(tape, i, wide), i, 0);
                } else if (isDigit(sign)) {
                    add(wide <= MOST_DIGITS ? NUMBER : UNKNOWN, i, numberOf(tape, i, wide));
                } else if (sign != 32 && sign != 10) {
                    add(SIGNS.indexOf((char) sign) >= 0 ? sign : UNKNOWN, i, 0);
                }
            }
            add(END, length, 0);
            at = NONE;
            next();
        }

        private static boolean isLetter(int sign) {
            return sign >= 'a' && sign <= 'z' || sign >= 'A' && sign <= 'Z';
        }

        private static boolean isDigit(int sign) {
            return sign >= '0' && sign <= '9';
        }

        /** How many letters, or digits, stand together there. */
        private static int runFrom(int[] tape, int length, int start) {
            int end = start;
            boolean letters = isLetter(tape[start]);
            while (end < length && end < tape.length && (letters ? isLetter(tape[end]) : isDigit(tape[end]))) {
                end++;
            }
            return end - start;
        }

        private static int wordOf(int[] tape, int start, int wide) {
            for (int word = 0; word + WORD <= WORDS.length() && wide < WORD; word += WORD) {
                int same = 0;
                while (same < wide && start + same < tape.length && WORDS.charAt(word + same) == tape[start + same]) {
                    same++;
                }
                if (same == wide && WORDS.charAt(word + wide) == ' ') {
                    return CELL + word / WORD;
                }
            }
            return UNKNOWN;
        }

        private static int numberOf(int[] tape, int start, int wide) {
            int number = 0;
            for (int i = start; i < start + wide && i < start + MOST_DIGITS && i < tape.length; i++) {
                number = 10 * number + tape[i] - '0';
            }
            return number;
        }

        private void add(int newKind, int newPlace, int newValue) {
            if (count <= TAPE) {
                kinds[count] = newKind;
                places[count] = newPlace;
                values[count] = newValue;
                count++;
            }
        }

        /** The end stays the token for ever. */
        private void next() {
            if (at + 1 < count) {
                at++;
            }
            if (at >= 0 && at <= TAPE) {
                kind = kinds[at];
                place = places[at];
                value = values[at];
            }
        }
    }

    /** Reads shapes and rules, till the first fault. */
    private static final class Reader {
        private static final int CANT_STAND = 1;
        private static final int WRONG_NUMBER = 2;
        private static final int TOO_MUCH = 3;
        private static final int MOST_LINES_OF_SHAPE = 32;
        private static final int MOST_OPEN = 8;

        private final Tokens tokens = new Tokens();
        private int fault;
        private int faultPlace = NONE;
        private long form;
        private final Rule draft = new Rule();

        private void forget() {
            fault = 0;
            faultPlace = NONE;
        }

        private boolean fail(int what, int place) {
            fault = what;
            faultPlace = place;
            return false;
        }

        private boolean accept(int kind) {
            if (tokens.kind != kind) {
                return fail(CANT_STAND, tokens.place);
            }
            tokens.next();
            return true;
        }

        /** NONE, with the fault told, if there is no number from least to most. */
        private int acceptNumber(int least, int most) {
            int number = tokens.value;
            if (tokens.kind != Tokens.NUMBER) {
                fail(CANT_STAND, tokens.place);
                return NONE;
            }
            if (number < least || number > most) {
                fail(WRONG_NUMBER, tokens.place);
                return NONE;
            }
            tokens.next();
            return number;
        }

        private boolean readShape(int[] tape, int length) {
            tokens.cut(tape, length);
            form = 0;
            for (int line = 0; line <= MOST_LINES_OF_SHAPE && tokens.kind != Tokens.END; line++) {
                if (!readShapeLine(line)) {
                    return false;
                }
            }
            return true;
        }

        private boolean readShapeLine(int line) {
            int word = tokens.kind;
            int place = tokens.place;
            if (word < Tokens.CELL || word > Tokens.HOLE) {
                return fail(CANT_STAND, place);
            }
            if (line == MOST_LINES_OF_SHAPE) {
                return fail(TOO_MUCH, place);
            }
            tokens.next();
            int x = acceptNumber(0, 7);
            int y = x == NONE ? NONE : acceptNumber(0, 7);
            int many = y == NONE ? NONE : acceptHowMany(word, x, y);
            if (many == NONE) {
                return false;
            }
            changeForm(word, 8 * y + x, many);
            if (Long.bitCount(form) > CELLS) {
                return fail(TOO_MUCH, place);
            }
            return accept(';');
        }

        private int acceptHowMany(int word, int x, int y) {
            if (word == Tokens.ROW) {
                return acceptNumber(1, 8 - x);
            }
            return word == Tokens.PILE ? acceptNumber(1, 8 - y) : 1;
        }

        private void changeForm(int word, int place, int many) {
            int step = word == Tokens.ROW ? 1 : 8;
            for (int i = 0; i < many; i++) {
                long cell = 1L << place + i * step;
                form = word == Tokens.HOLE ? form & ~cell : form | cell;
            }
        }

        private boolean readRule(int[] tape, int length) {
            tokens.cut(tape, length);
            draft.clear();
            for (int line = 0; line <= Rule.MOST_LINES && tokens.kind != Tokens.END; line++) {
                if (!readRuleLine(line)) {
                    return false;
                }
            }
            return true;
        }

        private boolean readRuleLine(int line) {
            int way = tokens.kind - Tokens.FIRST_WAY;
            if (!isOf(way, WAYS)) {
                return fail(CANT_STAND, tokens.place);
            }
            if (line == Rule.MOST_LINES) {
                return fail(TOO_MUCH, tokens.place);
            }
            tokens.next();
            int by = way == SHIFT ? acceptNumber(0, 9999) : 0;
            if (by == NONE) {
                return false;
            }
            draft.open(way, by);
            if (tokens.kind == Tokens.WHEN) {
                tokens.next();
                if (!readAny(0)) {
                    return false;
                }
            }
            draft.close();
            return accept(';');
        }

        private boolean readAny(int open) {
            boolean read = readAll(open);
            for (int i = 0; i < TAPE && read && tokens.kind == Tokens.OR; i++) {
                tokens.next();
                read = readAll(open);
                draft.write(-Tokens.OR);
            }
            return read;
        }

        private boolean readAll(int open) {
            boolean read = readCondition(open);
            for (int i = 0; i < TAPE && read && tokens.kind == Tokens.AND; i++) {
                tokens.next();
                read = readCondition(open);
                draft.write(-Tokens.AND);
            }
            return read;
        }

        private boolean readCondition(int open) {
            if (tokens.kind == Tokens.NOT || tokens.kind == '(') {
                return readOpened(tokens.kind, open);
            }
            if (!readSum()) {
                return false;
            }
            int sign = tokens.kind;
            if (sign != '<' && sign != '=' && sign != '>') {
                return fail(CANT_STAND, tokens.place);
            }
            tokens.next();
            if (!readSum()) {
                return false;
            }
            draft.write(-sign);
            return true;
        }

        private boolean readOpened(int kind, int open) {
            if (open >= MOST_OPEN) {
                return fail(TOO_MUCH, tokens.place);
            }
            tokens.next();
            if (kind == '(') {
                return readAny(open + 1) && accept(')');
            }
            if (!readCondition(open + 1)) {
                return false;
            }
            draft.write(-kind);
            return true;
        }

        /** A plus or minus waits till the product behind it is whole. */
        private boolean readSum() {
            int waiting = 0;
            int before = 0;
            for (int i = 0; i <= TAPE; i++) {
                if (!readUnit(before == '/')) {
                    return false;
                }
                if (before == '*' || before == '/') {
                    draft.write(-before);
                }
                before = tokens.kind;
                if (before != '*' && before != '/') {
                    if (waiting != 0) {
                        draft.write(-waiting);
                    }
                    if (before != '+' && before != '-') {
                        return true;
                    }
                    waiting = before;
                }
                tokens.next();
            }
            return false;
        }

        private boolean readUnit(boolean divides) {
            int kind = tokens.kind;
            boolean isWord = kind >= Tokens.YEAR && kind <= Tokens.MET;
            if (kind != Tokens.NUMBER && (divides || !isWord)) {
                return fail(CANT_STAND, tokens.place);
            }
            if (divides && tokens.value == 0) {
                return fail(WRONG_NUMBER, tokens.place);
            }
            draft.write(isWord ? -kind : tokens.value);
            tokens.next();
            return true;
        }
    }
}
