/** Sentences about the image and look: promises 29 and 30. */
final class ImageEdges {
    private static final int NONE = OldNeighbours.NONE;
    private static final int LEAST = Integer.MIN_VALUE;
    private static final int GREATEST = Integer.MAX_VALUE;

    private static final String TERM = "THE IMAGE: all that is and was told but the TAPE and fault(), as it was when it was taken;"
            + " gone back to it may be more than once.";
    private static final String IMAGE = "THE IMAGE is taken (true), or gone back to (false): true; false if there is none.";
    private static final String LOOK = "What 0 ALIKE, 1 BEAR, 2 STATE, 10 + k cells of SHAPE k, 20 + k cells of WALL k, 30 + k BRICKS in"
            + " WALL k.";
    private static final String LOOK_NONE = "NONE for another what.";

    private ImageEdges() {
    }

    private static void allThatCanBeSeenComesBack() {
        Talk t = Edge.full(Edge.TERMS, TERM);
        t.x.text(3);
        t.x.image(true);
        String before = Sight.of(t.x);
        for (int times = 0; times < 3; times++) {
            changeAll(t);
            t.due("all is otherwise", false, before.equals(Sight.of(t.x)));
            t.x.text(9);
            t.due("gone back", true, t.x.image(false));
            t.due("all is as it was", true, before.equals(Sight.of(t.x)));
        }
    }

    private static void rulesComeBack() {
        Talk t = Edge.of(Edge.TERMS, TERM);
        t.told(0, "row 0 0 3;", 3);
        t.told(6, "back;", 1);
        t.told(7, "shift 1;", 1);
        t.told(8, "same when 1=1;", 1);
        t.bricks(0, 0, 4, 5, 6);
        t.x.image(true);
        int[][] rows = {{6, 5, 4}, {6, 4, 5}, {4, 5, 6}};
        for (int rule = 0; rule < 3; rule++) {
            t.told(6, "shift 2 when 1=1;shift 2;", 2);
            t.told(7, "", 0);
            t.told(8, "shift 2 when 2=2;", 1);
            t.x.image(false);
            t.x.years(rule, 0, 1);
            t.stands("rule " + rule, 0, rows[rule]);
        }
    }

    private static void marksAndBrokenBricksComeBack() {
        Talk t = Edge.of(Edge.TERMS, TERM);
        t.told(0, "row 0 0 4;", 4);
        t.bricks(0, 0, 0, 1, 2, 3);
        t.bricks(1, 0, 1, 3, 0, 2);
        t.x.set(0, 1);
        for (int k = 0; k < 4; k++) {
            t.x.set(10 + k, k);
        }
        t.x.set(40, 1);
        t.x.set(63, 1);
        t.x.image(true);
        for (int k = 0; k < 24; k++) {
            t.x.set(10 + k, 1);
            t.x.set(40 + k, k == 0 ? 0 : 1);
        }
        t.due("all alike", 0, t.x.good(0, 1, 1));
        t.x.image(false);
        t.due("all unlike", 4, t.x.good(0, 1, 1));
        t.due("one broken", 1, t.x.spares(0));
        t.stands("one broken", 0, 4, 1, 2, 3);
    }

    private static void drawsComeBack() {
        Talk t = Edge.of(Edge.TERMS, TERM);
        t.told(0, "row 0 0 8;", 8);
        t.x.wall(0, 0);
        t.x.fill(0, 0);
        t.x.state(LEAST);
        t.x.image(true);
        t.x.again(0, 1, 0, 6, 0);
        String first = Sight.of(t.x);
        t.x.again(0, 1, 0, 6, 0);
        t.due("goes on", false, first.equals(Sight.of(t.x)));
        t.x.image(false);
        t.due("state", LEAST, t.x.look(2));
        t.due("wall 1", 0, t.x.look(21));
        t.x.again(0, 1, 0, 6, 0);
        t.due("the same draws", true, first.equals(Sight.of(t.x)));
    }

    private static void allGoesOnFromIt() {
        Talk t = Edge.full(Edge.TERMS, TERM);
        t.x.image(true);
        t.x.years(0, 1, 30);
        String first = Sight.of(t.x);
        changeAll(t);
        t.x.image(false);
        t.faulty(3, "cell 0 9;", 2, 7);
        t.feed("cell 6 6;");
        t.x.years(0, 1, 30);
        t.due("the same years", true, first.equals(Sight.of(t.x)));
    }

    private static void yearsThatWereGoneBackFromLeaveNothing() {
        Talk t = Edge.of(Edge.TERMS, TERM);
        t.told(0, "row 0 0 3;", 3);
        t.x.image(true);
        t.bricks(0, 0, 10, 11, 12);
        t.x.years(0, 0, 5);
        t.due("always", 2, t.x.met(2));
        t.x.image(false);
        t.due("met", 0, t.x.met(0));
        t.due("always", 0, t.x.met(2));
        t.due("years", 0, t.x.met(5));
        t.due("red", NONE, t.x.red(11, 1));
        t.bricks(0, 0, 0, 1, 2);
        t.x.years(0, 0, 5);
        t.due("couples", 2, t.x.history(0, 3));
        t.due("met", 2, t.x.met(0));
        t.due("always", 2, t.x.met(2));
        t.due("first", NONE, t.x.two(10, 11, 0));
        t.due("apart", 5, t.x.two(10, 11, 1));
        t.due("red", NONE, t.x.red(11, 1));
        t.due("red", 0, t.x.red(11, 0));
    }

    private static void theTapeIsNotOfIt() {
        Talk t = Edge.of(Edge.TERMS, TERM);
        t.feed("cell 1 1;");
        t.x.image(true);
        t.feed("row 0 0 3;");
        t.x.image(false);
        t.due("text", 3, t.x.text(0));
        t.x.image(false);
        t.due("the tape stays empty", false, t.x.end(1));
    }

    private static void theFaultIsNotOfIt() {
        Talk t = Edge.of(Edge.TERMS, TERM);
        t.faulty(0, "cell 0 9;", 2, 7);
        t.x.image(true);
        t.told(0, "cell 0 0;", 1);
        t.x.image(false);
        t.due("fault", 0, t.x.fault(0));
        t.due("place", NONE, t.x.fault(1));
        t.faulty(0, "oops", 1, 0);
        t.x.image(false);
        t.due("fault", 1, t.x.fault(0));
        t.due("place", 0, t.x.fault(1));
    }

    private static void aLaterImageTakesItsPlace() {
        Talk t = Edge.of(Edge.TERMS, TERM);
        t.x.state(1);
        t.x.image(true);
        t.x.state(2);
        t.x.image(true);
        t.x.state(3);
        t.x.image(false);
        t.due("the later one", 2, t.x.look(2));
        t.x.image(false);
        t.due("still", 2, t.x.look(2));
    }

    private static void noImageYet() {
        Talk t = Edge.full(29, IMAGE);
        t.refused("none", () -> t.x.image(false));
        t.refused("still none", () -> t.x.image(false));
    }

    private static void takingChangesNothing() {
        Talk t = Edge.full(29, IMAGE);
        String before = Sight.of(t.x);
        t.due("taken", true, t.x.image(true));
        t.due("as it was", true, before.equals(Sight.of(t.x)));
        t.due("gone back", true, t.x.image(false));
        t.due("as it was", true, before.equals(Sight.of(t.x)));
    }

    private static void theImageOfANewObject() {
        Talk t = Edge.of(29, IMAGE);
        String before = Sight.of(t.x);
        t.due("taken", true, t.x.image(true));
        t.told(0, "row 0 0 3;", 3);
        changeAll(t);
        t.x.text(9);
        t.due("gone back", true, t.x.image(false));
        t.due("new again", true, before.equals(Sight.of(t.x)));
        t.due("gone back again", true, t.x.image(false));
    }

    private static void lookAtAll() {
        Talk t = Edge.of(30, LOOK);
        for (int k = 0; k < 6; k++) {
            t.told(k, "row 0 0 " + (k + 1) + ";", k + 1);
            t.due("wall", true, t.x.wall(5 - k, k));
            t.x.lay(5 - k, k, k);
        }
        t.x.set(0, 1);
        t.x.set(1, 24);
        t.x.state(GREATEST);
        t.due("ALIKE", 1, t.x.look(0));
        t.due("BEAR", 24, t.x.look(1));
        t.due("STATE", GREATEST, t.x.look(2));
        for (int k = 0; k < 6; k++) {
            t.due("cells of shape " + k, k + 1, t.x.look(10 + k));
            t.due("cells of wall " + k, 6 - k, t.x.look(20 + k));
            t.due("bricks in wall " + k, 1, t.x.look(30 + k));
        }
    }

    private static void lookAtFullAndEmptyOnes() {
        Talk t = Edge.of(30, LOOK);
        t.told(5, "row 0 0 8;row 0 1 8;row 0 2 8;", 24);
        t.x.wall(0, 5);
        t.due("no bricks", 0, t.x.look(30));
        t.x.fill(0, 0);
        t.due("full", 24, t.x.look(30));
        t.told(5, "", 0);
        t.due("shape", 0, t.x.look(15));
        t.due("wall", 24, t.x.look(20));
        t.x.wall(0, 5);
        t.due("wall", 0, t.x.look(20));
        t.due("bricks", 0, t.x.look(30));
    }

    private static void anotherWhatOfLook() {
        Talk t = Edge.full(30, LOOK_NONE);
        for (int what : new int[] {-1, 3, 4, 9, 16, 19, 26, 29, 36, 37, 40, LEAST, GREATEST}) {
            t.refused("what " + what, NONE, () -> t.x.look(what));
        }
    }

    /** Tells anew whatever can be told. */
    private static void changeAll(Talk t) {
        for (int k = 0; k < 6; k++) {
            t.tell(k, "row 1 " + k + " 4;");
            t.x.wall(k, k);
            t.x.fill(k, 2 * k);
        }
        for (int k = 6; k < 9; k++) {
            t.tell(k, "shift 1;");
        }
        t.x.set(0, 0);
        t.x.set(1, 17);
        for (int k = 0; k < 24; k++) {
            t.x.set(10 + k, 3);
            t.x.set(40 + k, 1);
        }
        t.x.state(-5);
        t.x.years(0, 1, 30);
    }
}
