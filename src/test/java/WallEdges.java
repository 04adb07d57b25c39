/** Sentences about bricks and walls, old neighbours and walls put up again: promises 8 to 16. */
final class WallEdges {
    private static final int NONE = OldNeighbours.NONE;
    private static final int CANT = NONE - 1;
    private static final int LEAST = Integer.MIN_VALUE;
    private static final int GREATEST = Integer.MAX_VALUE;

    private static final String BRICKS = "BRICKS 0 .. 23 have a MARK 0 .. 3 (0 at first), are broken or not (not at first).";
    private static final String ALIKE = "ALIKE 0, 1 (0 at first).";
    private static final String WALLS = "WALLS 0 .. 5 are of a SHAPE as it was then, each cell with a BRICK (each at most once) or"
            + " empty.";
    private static final String NO_CELLS = "At first they are of no cells.";
    private static final String BESIDE = "Two BRICKS are BESIDE one another in a WALL, if their cells TOUCH.";
    private static final String NEIGHBOUR = "A BRICK of a WALL b has an OLD NEIGHBOUR from a WALL a, if it is in a, too, and a BRICK"
            + " is BESIDE it in b that was BESIDE it in a; with ALIKE 1 also, if a BRICK BESIDE it in b has the MARK of one that was"
            + " BESIDE it in a.";
    private static final String BAD = "BAD are BRICKS of b without one.";
    private static final String KEPT = "KEPT are couples that are BESIDE one another in both.";
    private static final String GOOD = "b is GOOD from a, if there are not more BAD ones than BEAR 0 .. 24 (0 at first).";
    private static final String AGAIN = "PUT UP AGAIN: a WALL's BRICKS, in the order of its cells (empty ones left out), come to the"
            + " cells of a SHAPE by a way; of n BRICKS and m cells those without a place (n above m) are left over, cells without a"
            + " BRICK are empty:";
    private static final String SAME = "same (0): BRICK i to cell i.";
    private static final String SHIFT = "shift N (1): to cell (i + N) modulo m.";
    private static final String BACK = "back (2): to cell m - 1 - i.";
    private static final String SNAKE = "snake (3): as same, cells in the order of y, with y even by x, with y odd from the greatest"
            + " x.";
    private static final String FIRST_M = "(With n above m the first m BRICKS.)";
    private static final String PAIRS = "pairs (4): COUPLES of a SHAPE: cell by cell, 0 first, that is in none yet: with the first"
            + " cell that TOUCHES it and is in none yet (right, above); none left: it is single.";
    private static final String OLD_PAIRS = "COUPLES of the WALL's BRICKS likewise (BRICKS in its cells, empty ones are none).";
    private static final String PAIR_TO_PAIR = "The first couple to the first one of the SHAPE (the lesser cell's BRICK to the lesser"
            + " cell), the second to the second, as long as there are both; then all other BRICKS, in the order of their cells, to"
            + " all cells that are left, in their order.";
    private static final String MEND = "mend (5): as same; then, again and again, the first two cells i < j (by i, then j; empty"
            + " ones, too) by whose exchange there are fewer BAD ones, or as many and more KEPT ones, are exchanged, till there are"
            + " none such.";
    private static final String MIX = "mix (6): as same; then for i from m - 1 down to 1 a DRAW of i + 1: cells i and that one are"
            + " exchanged.";
    private static final String SET = "What 0 ALIKE, 1 BEAR, 10 + k MARK, 40 + k broken (0, 1) of BRICK k: true; false if one can't"
            + " be, or another what.";
    private static final String WALL = "A WALL is of a SHAPE, all cells empty: true; false if one can't be.";
    private static final String LAY = "A BRICK (NONE: none) lies in a cell of a WALL (what was there is taken away): true; false if"
            + " one can't be (it lies in another cell).";
    private static final String FILL = "BRICKS from, from + 1, .. in all cells of a WALL, in order: true; false if one can't be (not"
            + " as many, or no cells).";
    private static final String AT = "The BRICK in a cell; NONE if it is empty; NONE - 1 if one can't be.";
    private static final String ASK_BESIDE = "The BRICKS BESIDE one, as a set (BRICK k counts 2 to the k); NONE if it is not in the"
            + " WALL, or one can't be.";
    private static final String ASK_GOOD = "Of two WALLS, the old one and the new one, what 0 BAD, as a set, 1 how many BAD, 2 KEPT,"
            + " 3 1 if the new one is GOOD from the old one, else 0.";
    private static final String GOOD_NONE = "NONE - 1 if one can't be, or another what.";
    private static final String JUDGE = "A row of WALLS (a number to the base of 6, n digits 2 .. 6, the first one highest), each"
            + " from the one ahead of it: the first (1 ..) that is not GOOD; NONE if all are; NONE - 1 if one can't be.";
    private static final String ASK_AGAIN = "WALL b becomes WALL a put up again in a SHAPE by a way 0 .. 6 (by: N of shift, 0 .. 99,"
            + " asked for it alone): how many BRICKS are left over; NONE if one can't be (a SHAPE without cells).";

    private static final String ROWS_24 = "row 0 0 8;row 0 1 8;row 0 2 8;";
    private static final int[] OUT_OF_SIX = {-1, 6, 7, LEAST, GREATEST};

    private WallEdges() {
    }

    // The terms of bricks and walls.

    private static void allMarksAre0AtFirst() {
        Talk t = strangers(Edge.of(Edge.TERMS, BRICKS));
        t.x.set(0, 1);
        t.due("all alike", 0, t.x.good(0, 1, 1));
    }

    private static void marksAreOfFourKinds() {
        Talk t = strangers(Edge.of(Edge.TERMS, BRICKS));
        t.x.set(0, 1);
        for (int k = 0; k < 4; k++) {
            t.due("mark " + k, true, t.x.set(10 + k, k));
        }
        t.due("all unlike", 4, t.x.good(0, 1, 1));
        t.due("mark 4", false, t.x.set(10, 4));
    }

    private static void theFirstAndTheLastBrick() {
        Talk t = Edge.of(Edge.TERMS, BRICKS);
        t.told(0, "row 0 0 2;", 2);
        t.bricks(0, 0, 0, 23);
        t.due("beside 0", 1 << 23, t.x.beside(0, 0));
        t.due("beside 23", 1, t.x.beside(0, 23));
        t.due("brick 24", false, t.x.lay(0, 0, 24));
    }

    private static void noneIsBrokenAtFirst() {
        Talk t = Edge.of(Edge.TERMS, BRICKS);
        t.told(0, "row 0 0 8;row 0 1 4;", 12);
        for (int from : new int[] {0, 12}) {
            t.x.wall(0, 0);
            t.x.fill(0, from);
            t.due("spares", 0, t.x.spares(0));
        }
    }

    private static void notAlikeAtFirst() {
        Talk t = strangers(Edge.of(Edge.TERMS, ALIKE));
        t.due("look", 0, t.x.look(0));
        t.due("bad", 4, t.x.good(0, 1, 1));
        t.due("set 2", false, t.x.set(0, 2));
        t.due("bad", 4, t.x.good(0, 1, 1));
        t.due("set 1", true, t.x.set(0, 1));
        t.due("bad", 0, t.x.good(0, 1, 1));
        t.due("set 0", true, t.x.set(0, 0));
        t.due("bad", 4, t.x.good(0, 1, 1));
    }

    private static void aWallKeepsItsShapeAsItWas() {
        Talk t = Edge.of(Edge.TERMS, WALLS);
        t.told(0, "row 0 0 2;row 0 1 2;", 4);
        t.x.wall(0, 0);
        t.told(0, "row 0 0 4;", 4);
        t.x.fill(0, 0);
        t.due("beside 0", 2 | 4, t.x.beside(0, 0));
        t.told(0, "", 0);
        t.stands("still", 0, 0, 1, 2, 3);
        t.due("beside 3", 2 | 4, t.x.beside(0, 3));
        t.due("lay", true, t.x.lay(0, 3, 9));
        t.due("door", 1, t.x.door(0, 0, 0));
    }

    private static void aBrickLiesOnceInAWall() {
        Talk t = Edge.of(Edge.TERMS, WALLS);
        t.told(0, "row 0 0 3;", 3);
        t.bricks(0, 0, 4, 5);
        t.refused("again", () -> t.x.lay(0, 2, 4));
        t.refused("in place of another", () -> t.x.lay(0, 1, 4));
        for (int w = 1; w < 6; w++) {
            t.bricks(w, 0, NONE, NONE, 4);
        }
    }

    private static void noWallHasCellsAtFirst() {
        Talk t = Edge.of(Edge.TERMS, NO_CELLS);
        for (int w = 0; w < 6; w++) {
            t.due("look", 0, t.x.look(20 + w));
            t.due("lay none", false, t.x.lay(w, 0, NONE));
            t.due("fill", false, t.x.fill(w, 0));
            t.due("at", CANT, t.x.at(w, 0));
        }
    }

    private static void besideOnlyWhereCellsTouch() {
        Talk t = Edge.of(Edge.TERMS, BESIDE);
        t.told(0, "cell 7 0;row 0 1 2;cell 1 2;cell 2 3;", 5);
        t.bricks(0, 0, 10, 11, 12, 13, 14);
        int[] sets = {0, 1 << 12, 1 << 11 | 1 << 13, 1 << 12, 0};
        for (int i = 0; i < 5; i++) {
            t.due("beside " + (10 + i), sets[i], t.x.beside(0, 10 + i));
        }
    }

    private static void theHighestRowIsNotBesideTheLowest() {
        Talk t = Edge.of(Edge.TERMS, BESIDE);
        t.told(0, "cell 0 0;cell 7 0;cell 0 7;cell 7 7;", 4);
        t.bricks(0, 0, 1, 2, 3, 4);
        for (int brick = 1; brick <= 4; brick++) {
            t.due("beside " + brick, 0, t.x.beside(0, brick));
        }
    }

    private static void nobodyIsBesideInAnEmptyCell() {
        Talk t = Edge.of(Edge.TERMS, BESIDE);
        t.told(0, "row 0 0 3;", 3);
        t.bricks(0, 0, 1, NONE, 3);
        t.due("beside 1", 0, t.x.beside(0, 1));
        t.due("beside 3", 0, t.x.beside(0, 3));
    }

    private static void oneThatIsNotInTheOldWall() {
        Talk t = Edge.of(Edge.TERMS, NEIGHBOUR);
        t.told(0, "row 0 0 3;", 3);
        t.bricks(0, 0, 0, 1, 2);
        t.bricks(1, 0, 0, 1, 3);
        t.due("bad", 1 << 3, t.x.good(0, 1, 0));
        t.x.set(0, 1);
        t.due("bad, also alike", 1 << 3, t.x.good(0, 1, 0));
    }

    private static void oneWithNobodyBesideIt() {
        Talk t = Edge.of(Edge.TERMS, NEIGHBOUR);
        t.told(0, "row 0 0 3;", 3);
        t.bricks(0, 0, 0, 1, 2);
        t.bricks(1, 0, 0, NONE, 2);
        t.x.set(0, 1);
        t.due("now nobody", 5, t.x.good(0, 1, 0));
        t.due("before nobody", 5, t.x.good(1, 0, 0) & 5);
        t.due("nobody in both", 5, t.x.good(1, 1, 0));
    }

    private static void theMarkOfOneThatWasBesideIt() {
        Talk t = strangers(Edge.of(Edge.TERMS, NEIGHBOUR));
        t.x.set(0, 1);
        for (int k = 0; k < 4; k++) {
            t.x.set(10 + k, k);
        }
        // 1 had 0 and 2 beside it and has 3 now.
        t.x.set(13, 2);
        t.due("3 like 2", 0, t.x.good(0, 1, 0) & 1 << 1);
        t.x.set(13, 0);
        t.due("3 like 0", 0, t.x.good(0, 1, 0) & 1 << 1);
        t.x.set(13, 1);
        t.due("3 like 1 itself", 1 << 1, t.x.good(0, 1, 0) & 1 << 1);
        t.x.set(0, 0);
        t.due("not asked", 15, t.x.good(0, 1, 0));
    }

    private static void nobodyIsBadInAnEmptyWall() {
        Talk t = Edge.of(Edge.TERMS, BAD);
        t.told(0, "row 0 0 3;", 3);
        t.bricks(0, 0, 0, 1, 2);
        t.x.wall(1, 0);
        for (int b : new int[] {1, 2}) {
            t.due("set", 0, t.x.good(0, b, 0));
            t.due("how many", 0, t.x.good(0, b, 1));
            t.due("good", 1, t.x.good(0, b, 3));
        }
    }

    private static void allAreBadFromAnEmptyWall() {
        Talk t = Edge.of(Edge.TERMS, BAD);
        t.told(0, ROWS_24, 24);
        t.x.wall(0, 0);
        t.x.wall(1, 0);
        t.x.fill(1, 0);
        for (int a : new int[] {0, 2}) {
            t.due("set", (1 << 24) - 1, t.x.good(a, 1, 0));
            t.due("how many", 24, t.x.good(a, 1, 1));
        }
    }

    private static void bricksThatAreGoneAreNotBad() {
        Talk t = Edge.of(Edge.TERMS, BAD);
        t.told(0, "row 0 0 4;", 4);
        t.bricks(0, 0, 0, 1, 2, 3);
        t.bricks(1, 0, 0, 1);
        t.due("set", 0, t.x.good(0, 1, 0));
    }

    private static void keptAreCouplesOfBoth() {
        Talk t = Edge.of(Edge.TERMS, KEPT);
        t.told(0, ROWS_24, 24);
        t.told(1, "pile 0 0 8;pile 1 0 8;pile 2 0 8;", 24);
        t.x.wall(0, 0);
        t.x.fill(0, 0);
        t.x.wall(1, 1);
        t.x.fill(1, 0);
        t.due("all of 24", 37, t.x.good(0, 0, 2));
        t.due("none from nothing", 0, t.x.good(5, 0, 2));
        t.due("none in nothing", 0, t.x.good(0, 5, 2));
        // Couples k, k + 1: 23 less 2 ends of rows in the one wall, less 7 in the other, 23 in both.
        t.due("some", 14, t.x.good(0, 1, 2));
        t.x.set(0, 1);
        t.due("alike or not", 14, t.x.good(0, 1, 2));
    }

    private static void asManyBadOnesAsAreBorne() {
        Talk t = strangers(Edge.of(Edge.TERMS, GOOD));
        t.due("0 at first", 0, t.x.look(1));
        for (int bear = 0; bear <= 24; bear++) {
            t.due("bear " + bear, true, t.x.set(1, bear));
            t.due("4 bad ones, borne " + bear, bear >= 4 ? 1 : 0, t.x.good(0, 1, 3));
        }
        t.due("bear 25", false, t.x.set(1, 25));
        t.due("bear -1", false, t.x.set(1, -1));
        t.due("bear 24 stays", 24, t.x.look(1));
    }

    private static void twentyFourAreBorne() {
        Talk t = Edge.of(Edge.TERMS, GOOD);
        t.told(0, ROWS_24, 24);
        t.x.wall(1, 0);
        t.x.fill(1, 0);
        t.x.set(1, 23);
        t.due("23 borne", 0, t.x.good(0, 1, 3));
        t.x.set(1, 24);
        t.due("24 borne", 1, t.x.good(0, 1, 3));
    }

    // The terms of walls put up again.

    private static void moreBricksThanCells() {
        Talk t = rowOf(Edge.of(Edge.TERMS, AGAIN), 6);
        t.told(1, "row 0 0 4;", 4);
        for (int way = 0; way < 7; way++) {
            t.due("way " + way, 2, t.x.again(0, 1, 1, way, 0));
            t.due("all cells are full", 4, t.x.look(31));
        }
    }

    private static void moreCellsThanBricks() {
        Talk t = rowOf(Edge.of(Edge.TERMS, AGAIN), 3);
        t.told(1, ROWS_24, 24);
        for (int way = 0; way < 7; way++) {
            t.due("way " + way, 0, t.x.again(0, 1, 1, way, 0));
            t.due("cells", 24, t.x.look(21));
            t.due("bricks", 3, t.x.look(31));
        }
    }

    private static void asManyCellsAsBricks() {
        Talk t = rowOf(Edge.of(Edge.TERMS, AGAIN), 4);
        t.told(1, "row 0 0 2;row 0 1 2;", 4);
        for (int way = 0; way < 7; way++) {
            t.due("way " + way, 0, t.x.again(0, 1, 1, way, 0));
            t.due("bricks", 4, t.x.look(31));
        }
    }

    private static void noBricks() {
        Talk t = Edge.of(Edge.TERMS, AGAIN);
        t.told(1, "row 0 0 2;", 2);
        for (int way = 0; way < 7; way++) {
            t.bricks(1, 1, 3, 4);
            t.due("way " + way, 0, t.x.again(0, 1, 1, way, 0));
            t.stands("empty", 1, NONE, NONE);
        }
    }

    private static void emptyCellsAreLeftOut() {
        Talk t = Edge.of(Edge.TERMS, AGAIN);
        t.told(0, "row 0 0 6;", 6);
        t.told(1, "row 0 0 2;", 2);
        t.bricks(0, 0, NONE, 9, NONE, NONE, 3, NONE);
        t.due("same", 0, t.x.again(0, 1, 1, 0, 0));
        t.stands("same", 1, 9, 3);
        t.due("back", 0, t.x.again(0, 1, 1, 2, 0));
        t.stands("back", 1, 3, 9);
    }

    private static void sameInFewerAndMoreCells() {
        Talk t = rowOf(Edge.of(Edge.TERMS, SAME), 4);
        t.told(1, "row 0 0 3;", 3);
        t.told(2, "row 0 0 5;", 5);
        t.told(3, "cell 7 7;", 1);
        t.x.again(0, 1, 1, 0, 0);
        t.stands("fewer", 1, 0, 1, 2);
        t.x.again(0, 1, 2, 0, 0);
        t.stands("more", 1, 0, 1, 2, 3, NONE);
        t.due("one", 3, t.x.again(0, 1, 3, 0, 0));
        t.stands("one", 1, 0);
    }

    private static void shiftWrapsAround() {
        Talk t = rowOf(Edge.of(Edge.TERMS, SHIFT), 4);
        t.x.again(0, 1, 0, 1, 0);
        t.stands("by 0", 1, 0, 1, 2, 3);
        t.x.again(0, 1, 0, 1, 3);
        t.stands("by 3", 1, 1, 2, 3, 0);
        t.x.again(0, 1, 0, 1, 4);
        t.stands("by 4", 1, 0, 1, 2, 3);
        t.x.again(0, 1, 0, 1, 99);
        t.stands("by 99", 1, 1, 2, 3, 0);
        t.told(1, "cell 0 0;", 1);
        t.due("one cell", 3, t.x.again(0, 1, 1, 1, 99));
        t.stands("one cell", 1, 0);
    }

    private static void shiftWrapsAmongEmptyCells() {
        Talk t = rowOf(Edge.of(Edge.TERMS, SHIFT), 3);
        t.told(1, "row 0 0 5;", 5);
        t.x.again(0, 1, 1, 1, 3);
        t.stands("by 3", 1, 2, NONE, NONE, 0, 1);
        t.told(6, "shift 9999;", 1);
        t.due("years", true, t.x.years(0, 1, 1) >= 0);
        t.stands("by 9999", 0, 1, 2, NONE, NONE, 0);
    }

    private static void backFromTheLastCell() {
        Talk t = rowOf(Edge.of(Edge.TERMS, BACK), 3);
        t.told(1, "row 0 0 5;", 5);
        t.told(2, "row 0 0 2;", 2);
        t.x.again(0, 1, 0, 2, 0);
        t.stands("as many", 1, 2, 1, 0);
        t.x.again(0, 1, 1, 2, 0);
        t.stands("more cells", 1, NONE, NONE, 2, 1, 0);
        t.x.again(0, 1, 2, 2, 0);
        t.stands("fewer cells", 1, 1, 0);
    }

    private static void snakeTurnsInOddRows() {
        Talk t = rowOf(Edge.of(Edge.TERMS, SNAKE), 4);
        t.told(1, "row 0 0 3;row 0 1 3;", 6);
        t.x.again(0, 1, 1, 3, 0);
        t.stands("the turn", 1, 0, 1, 2, NONE, NONE, 3);
        t.told(1, "row 0 7 3;", 3);
        t.x.again(0, 1, 1, 3, 0);
        t.stands("one odd row", 1, 2, 1, 0);
        t.told(1, "row 0 6 3;", 3);
        t.x.again(0, 1, 1, 3, 0);
        t.stands("one even row", 1, 0, 1, 2);
        t.told(1, "cell 0 1;cell 7 1;cell 3 3;cell 5 3;", 4);
        t.x.again(0, 1, 1, 3, 0);
        t.stands("two odd rows with gaps", 1, 1, 0, 3, 2);
        t.told(1, "pile 4 0 4;", 4);
        t.x.again(0, 1, 1, 3, 0);
        t.stands("a pile", 1, 0, 1, 2, 3);
    }

    private static void snakeThroughFullRows() {
        Talk t = Edge.of(Edge.TERMS, SNAKE);
        t.told(0, "row 0 0 8;row 0 1 8;row 0 3 8;", 24);
        t.x.wall(0, 0);
        t.x.fill(0, 0);
        t.x.again(0, 1, 0, 3, 0);
        for (int x = 0; x < 8; x++) {
            t.due("y 0, x " + x, x, t.x.at(1, x));
            t.due("y 1, x " + x, 15 - x, t.x.at(1, 8 + x));
            t.due("y 3, x " + x, 23 - x, t.x.at(1, 16 + x));
        }
    }

    private static void theFirstBricksAlone() {
        Talk t = rowOf(Edge.of(Edge.TERMS, FIRST_M), 6);
        t.told(1, "row 0 0 2;row 0 1 2;", 4);
        t.x.again(0, 1, 1, 0, 0);
        t.stands("same", 1, 0, 1, 2, 3);
        t.x.again(0, 1, 1, 1, 3);
        t.stands("shift", 1, 1, 2, 3, 0);
        t.x.again(0, 1, 1, 2, 0);
        t.stands("back", 1, 3, 2, 1, 0);
        t.x.again(0, 1, 1, 3, 0);
        t.stands("snake", 1, 0, 1, 3, 2);
    }

    private static void rightAheadOfAbove() {
        Talk t = rowOf(Edge.of(Edge.TERMS, PAIRS), 4);
        t.told(1, "row 0 0 2;row 0 1 2;", 4);
        t.x.again(0, 1, 1, 4, 0);
        t.stands("right", 1, 0, 1, 2, 3);
        t.told(1, "pile 0 0 2;pile 3 0 2;", 4);
        t.x.again(0, 1, 1, 4, 0);
        t.stands("above", 1, 0, 2, 1, 3);
    }

    private static void theRightOneIsInACoupleAlready() {
        Talk t = rowOf(Edge.of(Edge.TERMS, PAIRS), 3);
        // Cell 0 goes with cell 2 above it, so cell 1 to the left of that is single.
        t.told(1, "cell 1 0;row 0 1 2;", 3);
        t.x.again(0, 1, 1, 4, 0);
        t.stands("single", 1, 0, 2, 1);
        t.told(2, "row 0 0 4;", 4);
        t.bricks(2, 2, 0, 1, 2, 3);
        t.told(1, "cell 1 0;row 0 1 2;cell 5 5;", 4);
        t.x.again(2, 1, 1, 4, 0);
        t.stands("no second couple of cells", 1, 0, 2, 1, 3);
        t.told(1, "pile 0 0 2;pile 2 0 2;pile 4 0 2;", 6);
        t.bricks(2, 1, 0, 1, 2, 3, 4, 5);
        t.told(1, "row 0 0 6;", 6);
        t.x.again(2, 1, 1, 4, 0);
        t.stands("three piles", 1, 0, 3, 1, 4, 2, 5);
    }

    private static void twelveCouplesAndSinglesOf24() {
        Talk t = Edge.of(Edge.TERMS, PAIRS);
        t.told(0, ROWS_24, 24);
        t.told(1, "pile 0 0 8;pile 2 0 8;pile 4 0 8;", 24);
        t.told(2, "row 0 0 7;row 0 1 7;row 0 3 7;row 0 5 3;", 24);
        t.x.wall(0, 0);
        t.x.fill(0, 0);
        t.due("twelve", 0, t.x.again(0, 1, 1, 4, 0));
        for (int i = 0; i < 12; i++) {
            // Couples stand upright, three in every two rows.
            int below = 6 * (i / 3) + i % 3;
            t.due("below of couple " + i, 2 * i, t.x.at(1, below));
            t.due("above of couple " + i, 2 * i + 1, t.x.at(1, below + 3));
        }
        t.due("with singles", 0, t.x.again(0, 1, 2, 4, 0));
        // Cells 6 and 13 are a couple, 20 and 23 single.
        int[] row = {0, 1, 2, 3, 4, 5, 6, 8, 9, 10, 11, 12, 13, 7, 14, 15, 16, 17, 18, 19, 22, 20, 21, 23};
        t.stands("with singles", 1, row);
    }

    private static void singleCellsComeLast() {
        Talk t = rowOf(Edge.of(Edge.TERMS, PAIRS), 5);
        t.told(1, "cell 0 0;row 2 0 2;row 5 0 2;", 5);
        t.x.again(0, 1, 1, 4, 0);
        t.stands("single first", 1, 4, 0, 1, 2, 3);
        t.told(1, "cell 0 0;cell 2 0;cell 4 0;cell 6 0;cell 1 1;", 5);
        t.x.again(0, 1, 1, 4, 0);
        t.stands("all single", 1, 0, 1, 2, 3, 4);
        // The middle of a row of three is taken by its left one, so the last is single.
        t.told(1, "row 0 0 3;row 5 0 2;", 5);
        t.x.again(0, 1, 1, 4, 0);
        t.stands("single between", 1, 0, 1, 4, 2, 3);
        t.told(1, "cell 7 0;cell 0 1;row 2 1 2;", 4);
        t.due("the end of a row is single", 1, t.x.again(0, 1, 1, 4, 0));
        t.stands("the end of a row is single", 1, 2, 3, 0, 1);
    }

    private static void couplesOfBricksAlone() {
        Talk t = Edge.of(Edge.TERMS, OLD_PAIRS);
        t.told(0, "row 0 0 3;row 0 1 3;", 6);
        t.told(1, "row 0 0 6;", 6);
        // 5 has no one to its right, so it goes with 8 above; 7 has 9 above it.
        t.bricks(0, 0, 5, NONE, 7, 8, NONE, 9);
        t.x.again(0, 1, 1, 4, 0);
        t.stands("over empty cells", 1, 5, 8, 7, 9, NONE, NONE);
        t.bricks(0, 0, 5, NONE, 7, NONE, 8, NONE);
        t.x.again(0, 1, 1, 4, 0);
        t.stands("no couples", 1, 5, 7, 8, NONE, NONE, NONE);
    }

    private static void theRightBrickIsInACoupleAlready() {
        Talk t = Edge.of(Edge.TERMS, OLD_PAIRS);
        t.told(0, "cell 1 0;row 0 1 2;", 3);
        t.told(1, "row 0 0 4;", 4);
        t.bricks(0, 0, 5, 6, 7);
        // 5 goes with 7 above it, so 6 to the left of that is single.
        t.x.again(0, 1, 1, 4, 0);
        t.stands("no second couple of bricks", 1, 5, 7, 6, NONE);
    }

    private static void moreCouplesOfBricks() {
        Talk t = rowOf(Edge.of(Edge.TERMS, PAIR_TO_PAIR), 6);
        t.told(1, "cell 0 0;cell 2 0;row 4 0 2;cell 7 0;", 5);
        t.due("left over", 1, t.x.again(0, 1, 1, 4, 0));
        t.stands("one couple of cells", 1, 2, 3, 0, 1, 4);
    }

    private static void moreCouplesOfCells() {
        Talk t = Edge.of(Edge.TERMS, PAIR_TO_PAIR);
        t.told(0, "cell 0 0;row 2 0 2;cell 5 0;", 4);
        t.told(1, "row 0 0 6;", 6);
        t.bricks(0, 0, 9, 8, 7, 6);
        t.due("left over", 0, t.x.again(0, 1, 1, 4, 0));
        t.stands("one couple of bricks", 1, 8, 7, 9, 6, NONE, NONE);
    }

    private static void theLesserCellsBrickToTheLesserCell() {
        Talk t = Edge.of(Edge.TERMS, PAIR_TO_PAIR);
        t.told(0, "row 0 0 2;", 2);
        t.told(1, "cell 0 0;pile 2 0 2;", 3);
        t.bricks(0, 0, 9, 3);
        t.x.again(0, 1, 1, 4, 0);
        t.stands("9 below", 1, NONE, 9, 3);
    }

    private static void nothingToMend() {
        Talk t = rowOf(Edge.of(Edge.TERMS, MEND), 4);
        t.due("in the same shape", 0, t.x.again(0, 1, 0, 5, 0));
        t.stands("in the same shape", 1, 0, 1, 2, 3);
        t.told(1, "cell 0 0;cell 2 0;cell 4 0;", 3);
        t.due("where no cells touch", 1, t.x.again(0, 1, 1, 5, 0));
        t.stands("where no cells touch", 1, 0, 1, 2);
        t.told(1, "cell 0 0;", 1);
        t.due("in one cell", 3, t.x.again(0, 1, 1, 5, 0));
        t.stands("in one cell", 1, 0);
    }

    private static void mendExchangesEmptyCells() {
        Talk t = rowOf(Edge.of(Edge.TERMS, MEND), 2);
        t.told(1, "cell 0 0;cell 2 0;row 4 0 2;", 4);
        // 0 and 1 are bad apart; 0 with cell 2 leaves them apart, 0 with none of these helps alone.
        t.x.again(0, 1, 1, 5, 0);
        t.stands("two exchanges would be needed", 1, 0, 1, NONE, NONE);
        t.told(1, "cell 0 0;row 2 0 2;", 3);
        t.x.again(0, 1, 1, 5, 0);
        t.stands("one is enough", 1, NONE, 1, 0);
    }

    private static void mendTakesTheFirstTwo() {
        Talk t = rowOf(Edge.of(Edge.TERMS, MEND), 3);
        t.told(1, "row 0 0 2;cell 0 1;", 3);
        // As same 2 is bad above 0: cells 0 and 1 make it good, ahead of cells 1 and 2.
        t.x.again(0, 1, 1, 5, 0);
        t.stands("by i, then j", 1, 1, 0, 2);
    }

    private static void mendAsksWhatIsAlike() {
        Talk t = rowOf(Edge.of(Edge.TERMS, MEND), 3);
        t.told(1, "row 0 0 2;cell 0 1;", 3);
        t.x.set(0, 1);
        t.x.set(10, 1);
        t.x.set(11, 2);
        t.x.set(12, 3);
        t.x.again(0, 1, 1, 5, 0);
        t.stands("all unlike", 1, 1, 0, 2);
        t.x.set(10, 2);
        // 2 has 0 beside it, like 1: none is bad as same, but more are kept by the same exchange.
        t.x.again(0, 1, 1, 5, 0);
        t.stands("as many bad, more kept", 1, 1, 0, 2);
    }

    /** As the sentence says it, by exchanges through lay and questions through good. */
    private static void mendByHand() {
        String[] shapes = {"row 0 0 5;row 0 1 5;", "pile 0 0 5;pile 1 0 5;", "row 0 0 8;row 3 1 4;", "row 0 1 3;pile 1 0 5;row 4 4 3;",
            "row 0 0 3;row 0 2 3;row 5 5 3;cell 1 1;", "row 0 0 4;row 0 1 4;row 0 2 4;", "cell 0 0;row 2 0 5;pile 7 0 4;"};
        Talk t = Edge.of(Edge.TERMS, MEND);
        for (int i = 0; i < shapes.length * shapes.length; i++) {
            t.due("shape", true, t.tell(0, shapes[i / shapes.length]) > 0);
            t.due("shape", true, t.tell(1, shapes[i % shapes.length]) > 0);
            t.x.set(0, i % 2);
            for (int k = 0; k < 24; k++) {
                t.x.set(10 + k, (k * k + i) % 4);
            }
            t.x.wall(0, 0);
            t.x.fill(0, i % 10);
            t.x.lay(0, i % 7, NONE);
            t.x.state(i);
            t.x.again(0, 0, 0, 6, 0);
            t.x.again(0, 2, 1, 0, 0);
            while (exchangeFirst(t)) {
                t.due("cells", t.x.look(11), t.x.look(22));
            }
            t.x.again(0, 1, 1, 5, 0);
            for (int cell = 0; cell < t.x.look(21); cell++) {
                t.due("mend " + i + ", cell " + cell, t.x.at(2, cell), t.x.at(1, cell));
            }
        }
    }

    /** In wall 2, from wall 0. */
    private static boolean exchangeFirst(Talk t) {
        int bad = t.x.good(0, 2, 1);
        int kept = t.x.good(0, 2, 2);
        for (int i = 0; i < t.x.look(22); i++) {
            for (int j = i + 1; j < t.x.look(22); j++) {
                exchange(t, i, j);
                int nowBad = t.x.good(0, 2, 1);
                if (nowBad < bad || nowBad == bad && t.x.good(0, 2, 2) > kept) {
                    return true;
                }
                exchange(t, i, j);
            }
        }
        return false;
    }

    private static void exchange(Talk t, int i, int j) {
        int first = t.x.at(2, i);
        int second = t.x.at(2, j);
        t.x.lay(2, i, NONE);
        t.x.lay(2, j, first);
        t.x.lay(2, i, second);
    }

    private static void mixOfOneCell() {
        Talk t = rowOf(Edge.of(Edge.TERMS, MIX), 2);
        t.told(1, "cell 0 0;", 1);
        t.x.state(99);
        t.due("left over", 1, t.x.again(0, 1, 1, 6, 0));
        t.due("no draw", 99, t.x.look(2));
        t.stands("as same", 1, 0);
    }

    private static void mixDrawsForEachCellButOne() {
        Talk t = Edge.of(Edge.TERMS, MIX);
        t.told(0, ROWS_24, 24);
        t.x.wall(0, 0);
        t.x.fill(0, 0);
        for (int start : new int[] {0, 1, -1, LEAST, GREATEST, 123456789}) {
            int[] row = new int[24];
            for (int i = 0; i < 24; i++) {
                row[i] = i;
            }
            long state = start & 0xffffffffL;
            for (int i = 23; i > 0; i--) {
                state = (1664525L * state + 1013904223L) % (1L << 32);
                int other = (int) (state / 256 % (i + 1));
                int brick = row[i];
                row[i] = row[other];
                row[other] = brick;
            }
            t.x.state(start);
            t.x.again(0, 1, 0, 6, 0);
            t.due("state", (int) state, t.x.look(2));
            t.stands("mix of " + start, 1, row);
        }
    }

    private static void mixExchangesEmptyCells() {
        Talk t = rowOf(Edge.of(Edge.TERMS, MIX), 1);
        t.told(1, "row 0 0 2;", 2);
        t.x.state(0);
        // The draw of 2: 1013904223 / 256 is 3960563, which is odd, so cell 1 stays where it is.
        t.x.again(0, 1, 1, 6, 0);
        t.stands("stays", 1, 0, NONE);
        t.due("state", 1013904223, t.x.look(2));
        // The next state is 1196435762, by 256: 4673577, odd; then -775096599: 13749494, even.
        t.x.again(0, 1, 1, 6, 0);
        t.stands("stays", 1, 0, NONE);
        t.x.again(0, 1, 1, 6, 0);
        t.stands("goes", 1, NONE, 0);
    }

    // Promises 8 to 15.

    private static void leastAndMostOfWhatIsSet() {
        Talk t = Edge.of(8, SET);
        for (int v = 0; v <= 1; v++) {
            t.due("ALIKE " + v, true, t.x.set(0, v));
            t.due("look 0", v, t.x.look(0));
        }
        for (int v : new int[] {0, 24}) {
            t.due("BEAR " + v, true, t.x.set(1, v));
            t.due("look 1", v, t.x.look(1));
        }
        for (int k = 0; k < 24; k++) {
            for (int v = 0; v <= 3; v++) {
                t.due("MARK " + v + " of " + k, true, t.x.set(10 + k, v));
            }
            for (int v = 0; v <= 1; v++) {
                t.due("broken " + v + " of " + k, true, t.x.set(40 + k, v));
            }
        }
    }

    private static void whatCantBeSet() {
        Talk t = Edge.full(8, SET);
        int[][] cant = {{0, 2}, {0, -1}, {0, LEAST}, {0, GREATEST}, {1, 25}, {1, -1}, {1, LEAST}, {1, GREATEST}, {10, 4},
            {10, -1}, {33, 4}, {33, -1}, {40, 2}, {40, -1}, {63, 2}, {63, -1}, {33, GREATEST}, {63, LEAST}};
        for (int[] n : cant) {
            t.refused("set " + n[0] + " " + n[1], () -> t.x.set(n[0], n[1]));
        }
    }

    private static void anotherWhatOfSet() {
        Talk t = Edge.full(8, SET);
        for (int what : new int[] {-1, 2, 3, 9, 34, 35, 39, 64, 65, LEAST, GREATEST}) {
            t.refused("set " + what, () -> t.x.set(what, 0));
            t.refused("set " + what, () -> t.x.set(what, 1));
        }
    }

    private static void aRefusedMarkStaysAsItWas() {
        Talk t = strangers(Edge.of(8, SET));
        t.x.set(0, 1);
        for (int k = 0; k < 4; k++) {
            t.x.set(10 + k, k);
        }
        for (int v : new int[] {-1, 4, LEAST, GREATEST}) {
            for (int k = 0; k < 4; k++) {
                t.due("set", false, t.x.set(10 + k, v));
            }
            t.due("all unlike", 4, t.x.good(0, 1, 1));
        }
    }

    private static void aRefusedBreakLeavesItWhole() {
        Talk t = Edge.of(8, SET);
        t.told(0, "row 0 0 2;", 2);
        t.bricks(0, 0, 0, 23);
        t.due("set 40", false, t.x.set(40, 2));
        t.due("set 63", false, t.x.set(63, -1));
        t.due("none broken", 0, t.x.spares(0));
        t.due("set 40", true, t.x.set(40, 1));
        t.due("set 63", true, t.x.set(63, 1));
        t.due("set 40", false, t.x.set(40, 2));
        t.due("set 63", false, t.x.set(63, -1));
        t.due("both broken", 2, t.x.spares(0));
    }

    private static void aWallIsEmptyAtItsStart() {
        Talk t = Edge.of(9, WALL);
        t.told(5, "row 0 0 3;", 3);
        for (int w = 0; w < 6; w++) {
            t.due("wall " + w, true, t.x.wall(w, 5));
            t.x.fill(w, 4);
            t.due("wall " + w, true, t.x.wall(w, 5));
            t.stands("empty", w, NONE, NONE, NONE);
        }
    }

    private static void aWallOfAShapeWithoutCells() {
        Talk t = Edge.of(9, WALL);
        t.told(5, "row 0 0 3;", 3);
        t.bricks(0, 5, 1, 2, 3);
        t.due("wall", true, t.x.wall(0, 4));
        t.due("cells", 0, t.x.look(20));
        t.due("bricks", 0, t.x.look(30));
        t.due("beside", NONE, t.x.beside(0, 1));
    }

    private static void noSuchWallOrShape() {
        Talk t = Edge.full(9, WALL);
        for (int no : OUT_OF_SIX) {
            t.refused("wall " + no, () -> t.x.wall(no, 0));
            t.refused("shape " + no, () -> t.x.wall(0, no));
        }
    }

    private static void whatWasThereIsTakenAway() {
        Talk t = Edge.of(10, LAY);
        t.told(0, "row 0 0 3;", 3);
        t.bricks(0, 0, 1, 2, 3);
        t.due("another", true, t.x.lay(0, 1, 9));
        t.stands("another", 0, 1, 9, 3);
        t.due("none", true, t.x.lay(0, 1, NONE));
        t.stands("none", 0, 1, NONE, 3);
        t.due("none again", true, t.x.lay(0, 1, NONE));
        t.due("what was taken away", true, t.x.lay(0, 1, 2));
        t.due("itself", true, t.x.lay(0, 1, 2));
        t.stands("itself", 0, 1, 2, 3);
    }

    private static void itLiesInAnotherCell() {
        Talk t = Edge.full(10, LAY);
        int first = t.x.at(1, 0);
        int last = t.x.at(1, 4);
        t.refused("the first in the last", () -> t.x.lay(1, 4, first));
        t.refused("the last in the first", () -> t.x.lay(1, 0, last));
        t.refused("in an empty cell", () -> t.x.lay(1, 2, first));
    }

    private static void noSuchPlaceToLay() {
        Talk t = Edge.full(10, LAY);
        for (int brick : new int[] {NONE, 23}) {
            for (int no : OUT_OF_SIX) {
                t.refused("wall " + no, () -> t.x.lay(no, 0, brick));
            }
            for (int cell : new int[] {-1, 5, 24, LEAST, GREATEST}) {
                t.refused("cell " + cell, () -> t.x.lay(1, cell, brick));
            }
            t.refused("no cells", () -> t.x.lay(3, 0, brick));
            t.refused("cell 24 of 24", () -> t.x.lay(4, 24, brick));
        }
    }

    private static void noSuchBrickToLay() {
        Talk t = Edge.full(10, LAY);
        for (int brick : new int[] {-2, 24, 25, LEAST, GREATEST}) {
            t.refused("brick " + brick, () -> t.x.lay(1, 0, brick));
        }
        t.due("brick 23", true, t.x.lay(1, 0, 23));
        t.due("brick 0", true, t.x.lay(1, 0, 0));
    }

    private static void fillToTheLastBrick() {
        Talk t = Edge.of(11, FILL);
        t.told(0, "row 0 0 3;", 3);
        t.told(1, ROWS_24, 24);
        t.bricks(0, 0, 22, NONE, 0);
        t.due("from 21", true, t.x.fill(0, 21));
        t.stands("from 21", 0, 21, 22, 23);
        t.due("from 0", true, t.x.fill(0, 0));
        t.stands("from 0", 0, 0, 1, 2);
        t.x.wall(1, 1);
        t.due("24 from 0", true, t.x.fill(1, 0));
        t.due("the last", 23, t.x.at(1, 23));
    }

    private static void notAsManyBricks() {
        Talk t = Edge.full(11, FILL);
        for (int from : new int[] {20, 23, 24, 25, -1, -2, LEAST, GREATEST}) {
            t.refused("from " + from, () -> t.x.fill(1, from));
        }
        t.due("from 19", true, t.x.fill(1, 19));
        for (int from : new int[] {1, 23, -1, LEAST, GREATEST}) {
            t.refused("24 from " + from, () -> t.x.fill(4, from));
        }
    }

    private static void noCellsToFill() {
        Talk t = Edge.full(11, FILL);
        for (int from : new int[] {0, 23, 24, -1}) {
            t.refused("from " + from, () -> t.x.fill(3, from));
        }
    }

    private static void noSuchWallToFill() {
        Talk t = Edge.full(11, FILL);
        for (int no : OUT_OF_SIX) {
            t.refused("wall " + no, () -> t.x.fill(no, 0));
        }
    }

    private static void anEmptyCellAndNone() {
        Talk t = Edge.full(12, AT);
        t.x.lay(1, 0, 0);
        t.due("brick 0", 0, t.x.at(1, 0));
        t.due("empty", NONE, t.x.at(1, 2));
        for (int cell : new int[] {-1, 5, 24, LEAST, GREATEST}) {
            t.refused("cell " + cell, CANT, () -> t.x.at(1, cell));
        }
        t.refused("no cells", CANT, () -> t.x.at(3, 0));
        for (int no : OUT_OF_SIX) {
            t.refused("wall " + no, CANT, () -> t.x.at(no, 0));
        }
    }

    private static void aBrickThatIsNotInTheWall() {
        Talk t = Edge.full(13, ASK_BESIDE);
        t.x.lay(1, 0, 22);
        t.refused("brick 23", NONE, () -> t.x.beside(1, 23));
        t.due("nobody", 0, t.x.beside(1, 22));
        t.refused("no cells", NONE, () -> t.x.beside(3, 0));
    }

    private static void besideOfNoSuchOne() {
        Talk t = Edge.full(13, ASK_BESIDE);
        for (int brick : new int[] {-1, -2, 24, 31, 32, LEAST, GREATEST}) {
            t.refused("brick " + brick, NONE, () -> t.x.beside(1, brick));
        }
        for (int no : OUT_OF_SIX) {
            t.refused("wall " + no, NONE, () -> t.x.beside(no, 3));
        }
    }

    private static void fourBesideOne() {
        Talk t = Edge.of(13, ASK_BESIDE);
        t.told(0, "row 0 1 3;pile 1 0 3;", 5);
        t.bricks(0, 0, 0, 20, 21, 22, 23);
        t.due("the middle", 1 | 1 << 20 | 1 << 22 | 1 << 23, t.x.beside(0, 21));
        t.due("the lowest", 1 << 21, t.x.beside(0, 0));
        t.due("the highest", 1 << 21, t.x.beside(0, 23));
    }

    private static void goodOfTheSameWall() {
        Talk t = rowOf(Edge.of(14, ASK_GOOD), 3);
        int[] want = {0, 0, 2, 1};
        for (int what = 0; what < 4; what++) {
            t.due("good " + what, want[what], t.x.good(0, 0, what));
        }
        t.bricks(1, 0, NONE, 7, NONE);
        int[] wantOne = {1 << 7, 1, 0, 0};
        for (int what = 0; what < 4; what++) {
            t.due("good of one " + what, wantOne[what], t.x.good(1, 1, what));
        }
    }

    private static void theOldOneComesFirst() {
        Talk t = rowOf(Edge.of(14, ASK_GOOD), 3);
        t.bricks(1, 0, 0, 1);
        t.due("fewer bricks", 0, t.x.good(0, 1, 0));
        t.due("more bricks", 1 << 2, t.x.good(1, 0, 0));
        t.due("fewer bricks", 1, t.x.good(0, 1, 3));
        t.due("more bricks", 0, t.x.good(1, 0, 3));
    }

    private static void goodOfNoSuchOne() {
        Talk t = Edge.full(14, GOOD_NONE);
        for (int no : OUT_OF_SIX) {
            t.refused("old wall " + no, CANT, () -> t.x.good(no, 1, 0));
            t.refused("new wall " + no, CANT, () -> t.x.good(0, no, 3));
        }
    }

    private static void anotherWhatOfGood() {
        Talk t = Edge.full(14, GOOD_NONE);
        for (int what : new int[] {-1, 4, 10, LEAST, GREATEST}) {
            t.refused("what " + what, CANT, () -> t.x.good(0, 1, what));
        }
    }

    private static void twoToSixDigits() {
        Talk t = judged(Edge.of(15, JUDGE));
        t.due("0 1", 1, t.x.judge(1, 2));
        t.due("0 0 1", 2, t.x.judge(1, 3));
        t.due("0 0 0 1", 3, t.x.judge(1, 4));
        t.due("0 0 0 0 1", 4, t.x.judge(1, 5));
        t.due("0 0 0 0 0 1", 5, t.x.judge(1, 6));
        for (int n : new int[] {1, 0, -1, 7, 8, LEAST, GREATEST}) {
            t.due("n " + n, CANT, t.x.judge(0, n));
            t.due("n " + n, CANT, t.x.judge(1, n));
        }
    }

    private static void theFirstThatIsNotGood() {
        Talk t = judged(Edge.of(15, JUDGE));
        t.due("0 1 0 1", 1, t.x.judge(37, 4));
        t.due("0 0 1 0", 2, t.x.judge(6, 4));
        t.due("1 1 1 1", NONE, t.x.judge(259, 4));
        t.due("1 0", 1, t.x.judge(6, 2));
        // From a wall without cells all are bad, to it none.
        t.due("0 5", NONE, t.x.judge(5, 2));
        t.due("5 0", 1, t.x.judge(30, 2));
        t.due("0 5 0", 2, t.x.judge(30, 3));
    }

    private static void allAreGood() {
        Talk t = judged(Edge.of(15, JUDGE));
        t.due("0 0", NONE, t.x.judge(0, 2));
        t.due("0 0 0 0 0 0", NONE, t.x.judge(0, 6));
        t.due("5 5 5 5 5 5", NONE, t.x.judge(46655, 6));
        t.x.set(1, 3);
        t.due("0 1 with all borne", NONE, t.x.judge(1, 2));
    }

    private static void aRowWithTooManyDigits() {
        Talk t = judged(Edge.full(15, JUDGE));
        int top = 36;
        for (int n = 2; n <= 6; n++) {
            int digits = n;
            int row = top;
            t.due("the greatest of " + n, true, t.x.judge(row - 1, digits) >= NONE);
            t.refused("one more than the greatest of " + n, CANT, () -> t.x.judge(row, digits));
            t.refused("greatest int", CANT, () -> t.x.judge(GREATEST, digits));
            t.refused("below 0", CANT, () -> t.x.judge(-1, digits));
            t.refused("least int", CANT, () -> t.x.judge(LEAST, digits));
            top *= 6;
        }
    }

    // Promise 16.

    private static void allWaysAndNoOthers() {
        Talk t = Edge.full(16, ASK_AGAIN);
        for (int way : new int[] {-1, 7, 8, LEAST, GREATEST}) {
            t.refused("way " + way, NONE, () -> t.x.again(0, 1, 0, way, 0));
        }
        for (int way = 0; way < 7; way++) {
            t.due("way " + way, true, t.x.again(4, 1, 0, way, 0) >= 0);
        }
    }

    private static void byIsAskedForShiftAlone() {
        Talk t = Edge.full(16, ASK_AGAIN);
        for (int by : new int[] {-1, 100, 101, LEAST, GREATEST}) {
            t.refused("shift by " + by, NONE, () -> t.x.again(0, 1, 0, 1, by));
        }
        t.due("shift by 0", 0, t.x.again(0, 1, 0, 1, 0));
        t.due("shift by 99", 0, t.x.again(0, 1, 0, 1, 99));
        for (int way : new int[] {0, 2, 3, 4, 5, 6}) {
            for (int by : new int[] {-1, 100, LEAST, GREATEST}) {
                t.due("way " + way + " by " + by, 0, t.x.again(0, 1, 0, way, by));
            }
        }
    }

    private static void aShapeWithoutCells() {
        Talk t = Edge.full(16, ASK_AGAIN);
        for (int way = 0; way < 7; way++) {
            int asked = way;
            t.refused("way " + way, NONE, () -> t.x.again(0, 1, 3, asked, 0));
        }
    }

    private static void againOfNoSuchOne() {
        Talk t = Edge.full(16, ASK_AGAIN);
        for (int no : OUT_OF_SIX) {
            t.refused("wall a " + no, NONE, () -> t.x.again(no, 1, 0, 0, 0));
            t.refused("wall b " + no, NONE, () -> t.x.again(0, no, 0, 0, 0));
            t.refused("shape " + no, NONE, () -> t.x.again(0, 1, no, 6, 0));
        }
    }

    private static void aWallBecomesItself() {
        Talk t = rowOf(Edge.of(16, ASK_AGAIN), 4);
        t.told(1, "row 0 0 3;", 3);
        t.due("back", 1, t.x.again(0, 0, 1, 2, 0));
        t.stands("back", 0, 2, 1, 0);
        t.due("back to more", 0, t.x.again(0, 0, 0, 2, 0));
        t.stands("back to more", 0, NONE, 0, 1, 2);
        t.due("pairs", 0, t.x.again(0, 0, 1, 4, 0));
        t.stands("pairs", 0, 0, 1, 2);
        t.due("mend", 0, t.x.again(0, 0, 0, 5, 0));
        t.stands("mend", 0, 0, 1, 2, NONE);
    }

    private static void wallAStaysAsItIs() {
        Talk t = rowOf(Edge.of(16, ASK_AGAIN), 4);
        t.told(1, "row 0 0 3;", 3);
        for (int way = 0; way < 7; way++) {
            t.due("way " + way, 1, t.x.again(0, 5, 1, way, 2));
            t.stands("wall a", 0, 0, 1, 2, 3);
            t.due("cells of b", 3, t.x.look(25));
        }
        t.due("no year has passed", 0, t.x.met(4));
        t.due("nobody has met", 0, t.x.met(0));
    }

    /** Walls 0 and 1 with bricks 0 .. 3, none beside another that was beside it. */
    private static Talk strangers(Talk t) {
        t.told(0, "row 0 0 4;", 4);
        t.bricks(0, 0, 0, 1, 2, 3);
        t.bricks(1, 0, 1, 3, 0, 2);
        return t;
    }

    /** Shape 0 is a row, wall 0 bricks from 0 on in it. */
    private static Talk rowOf(Talk t, int n) {
        t.told(0, "row 0 0 " + n + ";", n);
        t.x.wall(0, 0);
        t.x.fill(0, 0);
        return t;
    }

    /** Walls 0 and 1 are not good from one another, wall 5 has no cells. */
    private static Talk judged(Talk t) {
        t.told(0, "row 0 0 3;", 3);
        t.bricks(0, 0, 0, 1, 2);
        t.bricks(1, 0, 0, 2, 1);
        t.x.set(0, 0);
        t.x.set(1, 0);
        return t;
    }
}
