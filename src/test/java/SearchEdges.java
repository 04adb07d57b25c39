/** Sentences about partings, layings, orders, spares, doors and older walls: promises 21 to 27. */
final class SearchEdges {
    private static final int NONE = OldNeighbours.NONE;
    private static final int LEAST = Integer.MIN_VALUE;
    private static final int GREATEST = Integer.MAX_VALUE;

    private static final String PARTING = "PARTING of a SHAPE into c couples (cells that TOUCH) and threes (of one row or one pile):"
            + " whether it can be just so, with c 0 .. 12 and all the rest threes.";
    private static final String MOST_COUPLES = "MOST COUPLES: the greatest number of couples without a common cell.";
    private static final String LAYINGS = "BY ALL LAYINGS (n up to 7 BRICKS of a WALL a, into a SHAPE of as many cells): FEWEST BAD;"
            + " MOST KEPT; how many layings are GOOD; the FIRST one that is best (by BAD, then KEPT; as a row of BRICKS by cells,"
            + " lesser numbers first).";
    private static final String ORDER = "ORDER of laying of a WALL b with an old WALL a, from below: again and again the least cell"
            + " that is not laid, whose BRICK (no empty one) can be: its cell RESTS on none, or on one that is laid (or empty), and a"
            + " BRICK that is laid is BESIDE it in b and was in a; if there is none such, the least one that RESTS so: a START.";
    private static final String NOT_ALIKE = "(ALIKE is not asked.)";
    private static final String STARTS = "How many STARTS; the i-th laid.";
    private static final String BORNE = "BORNE: of a WALL (n up to 14 BRICKS) the most BRICKS that can be replaced by spares so that"
            + " each BRICK of it, spare or not, is BESIDE one that was not replaced; the least such set (as a number by BRICKS in the"
            + " order of their cells: the k-th, from 0, counts 2 to the k).";
    private static final String SPARES = "SPARES: broken BRICKS of a WALL are replaced by BRICKS that are not in it, not broken, the"
            + " least first (as many as there are), cell by cell.";
    private static final String DOOR = "DOOR: without the BRICK of a cell: into how many PARTS (BRICKS that hang together) a WALL"
            + " falls, how many BRICKS have nobody BESIDE them.";
    private static final String OLDER = "OLDER: of two WALLS: 0 neither is GOOD from the other, 1 the second is GOOD from the first"
            + " alone, 2 the first from the second alone, 3 both.";
    private static final String TELLS = "TELLS: how many single BRICKS there are in the second one without which (cell empty; the"
            + " first one stays as it is, also if it is the same WALL) that would be told otherwise.";
    private static final String ASK_PARTING = "PARTING of a SHAPE with c couples: 1 or 0; c NONE: MOST COUPLES.";
    private static final String PARTING_NONE = "NONE if one can't be (no cells).";
    private static final String ASK_LAYINGS = "BY ALL LAYINGS of WALL a into a SHAPE what 0 FEWEST BAD, 1 MOST KEPT, 2 how many are"
            + " GOOD, 10 + i the BRICK of cell i by FIRST.";
    private static final String LAYINGS_NONE = "NONE if one can't be (none, or not as many cells), or another what.";
    private static final String ASK_ORDER = "ORDER of WALL b with an old WALL a what 0 STARTS, 10 + i the i-th BRICK that is laid.";
    private static final String ORDER_NONE = "NONE if there is none such, one can't be, or another what.";
    private static final String ASK_BORNE = "BORNE of a WALL what 0 how many, 1 the set.";
    private static final String BORNE_NONE = "NONE if one can't be (a BRICK that has nobody BESIDE it, no BRICKS, more than 14), or"
            + " another what.";
    private static final String ASK_SPARES = "SPARES of a WALL: how many were replaced; NONE if one can't be.";
    private static final String ASK_DOOR = "DOOR at a cell what 0 PARTS, 1 how many have nobody.";
    private static final String DOOR_NONE = "NONE if one can't be (an empty cell), or another what.";
    private static final String ASK_OLDER = "OLDER of two WALLS (what 0), TELLS (1).";
    private static final String OLDER_NONE = "NONE if one can't be, or another what.";

    private static final String ROWS_24 = "row 0 0 8;row 0 1 8;row 0 2 8;";
    private static final int[] OUT_OF_SIX = {-1, 6, 7, LEAST, GREATEST};

    private SearchEdges() {
    }

    // Partings.

    private static void partingsOfFewCells() {
        Talk t = Edge.of(Edge.TERMS, PARTING);
        parted(t, "cell 7 7;");
        parted(t, "row 0 0 2;", 1);
        parted(t, "row 0 0 3;", 0);
        parted(t, "pile 7 5 3;", 0);
        parted(t, "row 0 0 4;", 2);
        parted(t, "row 0 0 5;", 1);
        parted(t, "row 0 0 6;", 0, 3);
        parted(t, "row 0 0 7;", 2);
        parted(t, "row 0 0 8;", 1, 4);
    }

    private static void threesAreStraight() {
        Talk t = Edge.of(Edge.TERMS, PARTING);
        parted(t, "row 0 0 2;cell 0 1;");
        parted(t, "row 0 0 2;row 0 1 2;", 2);
        // Cells 0 1 . 3 are not three in a row, and a row's end and the next row's start neither.
        parted(t, "row 0 0 2;cell 3 0;");
        parted(t, "row 6 0 2;cell 0 1;");
        parted(t, "cell 7 0;row 0 1 2;");
        parted(t, "pile 0 6 2;cell 1 0;");
        parted(t, "pile 3 6 2;pile 3 0 1;");
    }

    private static void couplesTouch() {
        Talk t = Edge.of(Edge.TERMS, PARTING);
        parted(t, "cell 0 0;cell 2 0;");
        parted(t, "cell 0 0;cell 1 1;");
        parted(t, "cell 7 0;cell 0 1;");
        parted(t, "cell 0 0;cell 0 7;");
    }

    private static void twelveCouplesAndNone() {
        Talk t = Edge.of(Edge.TERMS, PARTING);
        parted(t, ROWS_24, 0, 3, 6, 9, 12);
        parted(t, "row 0 0 8;row 0 1 8;row 0 2 7;", 1, 4, 7, 10);
        parted(t, "pile 0 0 8;pile 1 0 8;pile 2 0 8;", 0, 3, 6, 9, 12);
    }

    private static void mostCouplesOfFewAndMany() {
        Talk t = Edge.of(Edge.TERMS, MOST_COUPLES);
        mostCouples(t, "cell 0 0;", 0);
        mostCouples(t, "cell 0 0;cell 2 0;cell 1 1;", 0);
        mostCouples(t, "cell 0 0;row 3 0 2;", 1);
        mostCouples(t, "cell 0 0;cell 2 0;cell 4 0;pile 0 3 2;pile 7 6 2;", 2);
        mostCouples(t, "cell 7 0;cell 0 1;", 0);
        mostCouples(t, "row 0 0 3;", 1);
        // A cross: all couples have the middle in common.
        mostCouples(t, "row 0 1 3;pile 1 0 3;", 1);
        mostCouples(t, ROWS_24, 12);
        mostCouples(t, "row 0 0 8;row 0 1 8;row 0 2 7;", 11);
        // A chessboard's corners of one colour taken away.
        mostCouples(t, "row 0 0 4;row 0 1 4;row 0 2 4;row 0 3 4;hole 0 0;hole 3 3;", 6);
        // The least cell has to go with the one above, not with its right one.
        mostCouples(t, "row 0 0 2;cell 0 1;cell 2 0;", 2);
        mostCouples(t, "row 0 0 3;cell 0 1;cell 2 1;hole 1 0;", 2);
    }

    private static void noneAsksForTheMost() {
        Talk t = Edge.of(21, ASK_PARTING);
        t.told(5, "row 0 0 5;", 5);
        t.due("NONE", 2, t.x.parting(5, NONE));
        t.due("1", 1, t.x.parting(5, 1));
        t.due("2", 0, t.x.parting(5, 2));
        t.due("0", 0, t.x.parting(5, 0));
        t.due("12", 0, t.x.parting(5, 12));
    }

    private static void oneQuestionAfterAnother() {
        Talk t = Edge.of(21, ASK_PARTING);
        t.told(0, "row 0 0 6;", 6);
        t.told(1, "row 0 0 8;row 0 1 8;row 0 2 8;", 24);
        for (int i = 0; i < 2; i++) {
            t.due("most of 6", 3, t.x.parting(0, NONE));
            t.due("0 of 6", 1, t.x.parting(0, 0));
            t.due("1 of 6", 0, t.x.parting(0, 1));
            t.due("3 of 6", 1, t.x.parting(0, 3));
            t.due("most of 24", 12, t.x.parting(1, NONE));
            t.due("2 of 24", 0, t.x.parting(1, 2));
            t.due("12 of 24", 1, t.x.parting(1, 12));
        }
    }

    private static void bothQuestionsOfOneShapeByTurns() {
        Talk t = Edge.of(21, ASK_PARTING);
        t.told(0, "row 0 0 6;", 6);
        for (int i = 0; i < 3; i++) {
            t.due("0 couples", 1, t.x.parting(0, 0));
            t.due("most couples", 3, t.x.parting(0, NONE));
            t.due("2 couples", 0, t.x.parting(0, 2));
            t.due("most couples", 3, t.x.parting(0, NONE));
        }
    }

    private static void partingOfNoCells() {
        Talk t = Edge.full(21, PARTING_NONE);
        for (int c : new int[] {NONE, 0, 1, 12}) {
            t.refused("c " + c, NONE, () -> t.x.parting(3, c));
        }
    }

    private static void partingOfNoSuchOne() {
        Talk t = Edge.full(21, PARTING_NONE);
        for (int no : OUT_OF_SIX) {
            t.refused("shape " + no, NONE, () -> t.x.parting(no, 0));
            t.refused("shape " + no, NONE, () -> t.x.parting(no, NONE));
        }
        for (int c : new int[] {-2, 13, 14, 31, 32, LEAST, GREATEST}) {
            t.refused("c " + c, NONE, () -> t.x.parting(0, c));
            t.refused("c " + c + " of 24", NONE, () -> t.x.parting(4, c));
        }
    }

    // Layings.

    private static void layingsOfOneBrick() {
        Talk t = Edge.of(Edge.TERMS, LAYINGS);
        t.told(0, "cell 5 5;", 1);
        t.bricks(0, 0, 23);
        layings(t, 0, 0, 1, 0, 0, 23);
        t.x.set(1, 1);
        layings(t, 0, 0, 1, 0, 1, 23);
    }

    private static void layingsOfSevenBricks() {
        Talk t = Edge.of(Edge.TERMS, LAYINGS);
        t.told(0, "row 0 0 7;", 7);
        t.told(1, "row 0 0 8;", 8);
        t.bricks(0, 0, 20, 6, 5, 4, 3, 2, 0);
        t.due("fewest bad", 0, t.x.layings(0, 0, 0));
        t.due("most kept", 6, t.x.layings(0, 0, 1));
        t.due("the first", 0, t.x.layings(0, 0, 10));
        t.due("the last", 20, t.x.layings(0, 0, 16));
        t.due("no more", NONE, t.x.layings(0, 0, 17));
        t.x.set(1, 24);
        t.due("all are good", 5040, t.x.layings(0, 0, 2));
        t.x.wall(1, 1);
        t.x.fill(1, 0);
        t.due("eight", NONE, t.x.layings(1, 1, 0));
        t.x.lay(1, 3, NONE);
        t.due("seven in a wall of eight", 7, t.x.look(31));
        t.due("into seven cells", 0, t.x.layings(1, 0, 0));
        t.due("into eight cells", NONE, t.x.layings(1, 1, 0));
    }

    private static void theFirstByLesserNumbers() {
        Talk t = Edge.of(Edge.TERMS, LAYINGS);
        t.told(0, "row 0 0 3;", 3);
        t.told(1, "cell 0 0;cell 2 0;cell 4 0;", 3);
        t.bricks(0, 0, 9, 2, 5);
        layings(t, 0, 0, 0, 2, 2, 5, 2, 9);
        layings(t, 0, 1, 3, 0, 0, 2, 5, 9);
        // All are alike, so that none is bad anywhere: then the most kept ones count.
        t.x.set(0, 1);
        layings(t, 0, 0, 0, 2, 6, 5, 2, 9);
    }

    private static void mostKeptNeedNotBeBest() {
        Talk t = Edge.of(Edge.TERMS, LAYINGS);
        // Old: a row 0 1 2 3. New: three in a row, the fourth above the middle one.
        t.told(0, "row 0 0 4;", 4);
        t.told(1, "row 0 0 3;cell 1 1;", 4);
        t.bricks(0, 0, 0, 1, 2, 3);
        // With 1 or 2 in the middle two couples are kept, and one brick is bad.
        layings(t, 0, 1, 1, 2, 0, 0, 1, 2, 3);
        t.x.set(0, 1);
        for (int brick : new int[] {0, 2, 3}) {
            t.x.set(10 + brick, 2);
        }
        // With 0 in the middle, like 2 and 3, none is bad, and only 0 1 is kept.
        layings(t, 0, 1, 0, 2, 6, 1, 0, 2, 3);
    }

    private static void oneThatHadNobodyIsBadAnywhere() {
        Talk t = Edge.of(Edge.TERMS, LAYINGS);
        t.told(0, "row 0 0 4;", 4);
        t.told(1, "row 0 0 3;", 3);
        t.bricks(0, 0, 0, NONE, 1, 2);
        layings(t, 0, 1, 1, 1, 0, 0, 1, 2);
        t.x.set(1, 1);
        layings(t, 0, 1, 1, 1, 4, 0, 1, 2);
    }

    private static void noBricksToLay() {
        Talk t = Edge.full(22, LAYINGS_NONE);
        t.x.wall(5, 5);
        for (int what : new int[] {0, 1, 2, 10}) {
            t.refused("no bricks, one cell", NONE, () -> t.x.layings(5, 5, what));
            t.refused("no cells in both", NONE, () -> t.x.layings(3, 3, what));
        }
    }

    private static void notAsManyCells() {
        Talk t = Edge.full(22, LAYINGS_NONE);
        t.told(3, "row 0 0 4;", 4);
        for (int what : new int[] {0, 1, 2, 10}) {
            t.refused("fewer cells", NONE, () -> t.x.layings(1, 5, what));
            t.refused("more cells", NONE, () -> t.x.layings(1, 1, what));
            t.refused("eight bricks", NONE, () -> t.x.layings(2, 2, what));
            t.refused("24 bricks", NONE, () -> t.x.layings(4, 4, what));
            t.due("as many", true, t.x.layings(1, 3, what) != NONE);
        }
    }

    private static void layingsOfNoSuchOne() {
        Talk t = Edge.full(22, LAYINGS_NONE);
        for (int no : OUT_OF_SIX) {
            t.refused("wall " + no, NONE, () -> t.x.layings(no, 0, 0));
            t.refused("shape " + no, NONE, () -> t.x.layings(0, no, 0));
        }
    }

    private static void anotherWhatOfLayings() {
        Talk t = Edge.full(22, LAYINGS_NONE);
        for (int what : new int[] {-1, 3, 4, 9, 16, 17, LEAST, GREATEST}) {
            t.refused("what " + what, NONE, () -> t.x.layings(0, 0, what));
        }
        t.due("what 15", true, t.x.layings(0, 0, 15) != NONE);
    }

    private static void theBrickOfEachCell() {
        Talk t = Edge.of(22, ASK_LAYINGS);
        t.told(0, "pile 4 4 2;", 2);
        t.bricks(0, 0, 7, 3);
        layings(t, 0, 0, 0, 1, 2, 3, 7);
        t.due("cell 2", NONE, t.x.layings(0, 0, 12));
        t.stands("the wall stays", 0, 7, 3);
    }

    // Orders.

    private static void orderOfAnEmptyWall() {
        Talk t = Edge.of(Edge.TERMS, ORDER);
        t.told(0, "row 0 0 3;", 3);
        t.bricks(0, 0, 0, 1, 2);
        t.x.wall(1, 0);
        ordered(t, 0, 1, 0);
        ordered(t, 0, 5, 0);
    }

    private static void orderWithAnEmptyOldWall() {
        Talk t = Edge.of(Edge.TERMS, ORDER);
        t.told(0, "row 0 0 2;row 0 1 2;", 4);
        t.bricks(0, 0, 9, 8, 7, 6);
        ordered(t, 5, 0, 4, 9, 8, 7, 6);
    }

    private static void nothingIsLaidAheadOfWhatItRestsOn() {
        Talk t = Edge.of(Edge.TERMS, ORDER);
        // 0 at the left, 1 at the right below, 2 above 0, 3 above 1; old: 0 2 3 1 in a row.
        t.told(0, "cell 0 0;cell 1 0;row 0 1 2;", 4);
        t.told(1, "row 0 0 4;", 4);
        t.bricks(0, 0, 0, 1, 2, 3);
        t.bricks(1, 1, 0, 2, 3, 1);
        // 3 is above 1, which is not laid; so 1 starts anew.
        ordered(t, 1, 0, 2, 0, 2, 1, 3);
    }

    private static void restsOnAnEmptyCell() {
        Talk t = Edge.of(Edge.TERMS, ORDER);
        t.told(0, "row 0 0 2;row 0 1 2;", 4);
        t.bricks(0, 0, NONE, 1, 2, 3);
        ordered(t, 0, 0, 1, 1, 3, 2);
        t.bricks(0, 0, NONE, NONE, 2, 3);
        ordered(t, 0, 0, 1, 2, 3);
    }

    private static void restsOnNone() {
        Talk t = Edge.of(Edge.TERMS, ORDER);
        // A cell above a gap rests on none, so it can be laid before what is below the gap is.
        t.told(0, "cell 3 0;row 0 2 4;", 5);
        t.bricks(0, 0, 9, 0, 1, 2, 3);
        t.bricks(1, 0, NONE, 0, 1, 2, 3);
        ordered(t, 1, 0, 2, 9, 0, 1, 2, 3);
    }

    private static void theLeastCellEachTime() {
        Talk t = Edge.of(Edge.TERMS, ORDER);
        t.told(0, "row 0 0 5;", 5);
        // Old: 1 2 3; new: 0 1 2 3 4. So 0 starts, 1 starts, 2 and 3 follow, 4 starts.
        t.bricks(0, 0, 0, 1, 2, 3, 4);
        t.told(2, "row 0 0 3;", 3);
        t.bricks(1, 2, 1, 2, 3);
        ordered(t, 1, 0, 3, 0, 1, 2, 3, 4);
        // New 4 3 0 1 2, old 0 1 2 3 4: 4 starts, 3 follows, 0 starts, 1 and 2 follow.
        t.bricks(2, 0, 4, 3, 0, 1, 2);
        ordered(t, 0, 2, 2, 4, 3, 0, 1, 2);
    }

    private static void orderDoesNotAskAlike() {
        Talk t = Edge.of(Edge.TERMS, NOT_ALIKE);
        t.told(0, "row 0 0 3;", 3);
        t.bricks(0, 0, 0, 1, 2);
        t.bricks(1, 0, 0, 2, 1);
        ordered(t, 0, 1, 2, 0, 2, 1);
        t.x.set(0, 1);
        ordered(t, 0, 1, 2, 0, 2, 1);
    }

    private static void startsOfOneAndOfAll() {
        Talk t = Edge.of(Edge.TERMS, STARTS);
        t.told(0, ROWS_24, 24);
        t.x.wall(0, 0);
        t.x.fill(0, 0);
        t.due("of itself", 1, t.x.order(0, 0, 0));
        t.due("of nothing", 24, t.x.order(5, 0, 0));
        for (int i = 0; i < 24; i++) {
            t.due("laid " + i, i, t.x.order(5, 0, 10 + i));
        }
        t.bricks(1, 0, NONE, NONE, 7);
        ordered(t, 1, 1, 1, 7);
    }

    private static void theIthBrick() {
        Talk t = Edge.of(23, ASK_ORDER);
        t.told(0, "row 0 0 2;", 2);
        t.bricks(0, 0, 23, 5);
        ordered(t, 0, 0, 1, 23, 5);
    }

    private static void noSuchBrickIsLaid() {
        Talk t = Edge.full(23, ORDER_NONE);
        t.refused("four of wall 1", NONE, () -> t.x.order(0, 1, 14));
        t.due("the last of wall 1", true, t.x.order(0, 1, 13) >= 0);
        t.refused("24 of wall 4", NONE, () -> t.x.order(0, 4, 34));
        t.due("the last of wall 4", true, t.x.order(0, 4, 33) >= 0);
        t.refused("none of wall 3", NONE, () -> t.x.order(0, 3, 10));
        t.refused("greatest", NONE, () -> t.x.order(0, 1, GREATEST));
    }

    private static void orderOfNoSuchWall() {
        Talk t = Edge.full(23, ORDER_NONE);
        for (int no : OUT_OF_SIX) {
            t.refused("old wall " + no, NONE, () -> t.x.order(no, 0, 0));
            t.refused("new wall " + no, NONE, () -> t.x.order(0, no, 0));
        }
    }

    private static void anotherWhatOfOrder() {
        Talk t = Edge.full(23, ORDER_NONE);
        for (int what : new int[] {-1, 1, 2, 9, LEAST}) {
            t.refused("what " + what, NONE, () -> t.x.order(0, 0, what));
        }
    }

    // Borne.

    private static void borneOfTwoAndThree() {
        Talk t = Edge.of(Edge.TERMS, BORNE);
        t.told(0, "row 0 0 8;row 0 1 8;", 16);
        t.bricks(0, 0, 9, 4);
        borne(t, 0, 0, 0);
        t.bricks(0, 0, 9, 4, 1);
        borne(t, 0, 1, 1);
        t.bricks(0, 0, 9, 4, 1, 0);
        // The middle two have to stay for the ends, and each has the other.
        borne(t, 0, 2, 1 | 8);
        t.bricks(0, 0, NONE, NONE, 9, 4, 1, 0);
        borne(t, 0, 2, 1 | 8);
    }

    private static void theLeastSetCountsByCells() {
        Talk t = Edge.of(Edge.TERMS, BORNE);
        t.told(0, "row 0 0 2;row 0 1 2;", 4);
        for (int from : new int[] {0, 20}) {
            t.x.wall(0, 0);
            t.x.fill(0, from);
            borne(t, 0, 2, 3);
        }
        // A cross: the middle and one end stay, the last one.
        t.told(0, "row 0 1 3;pile 1 0 3;", 5);
        t.x.wall(0, 0);
        t.x.fill(0, 0);
        borne(t, 0, 3, 1 | 2 | 8);
    }

    private static void fourteenAndFifteen() {
        Talk t = Edge.of(Edge.TERMS, BORNE);
        t.told(0, "row 0 0 8;row 0 1 8;", 16);
        t.x.wall(0, 0);
        t.x.fill(0, 0);
        borne(t, 0, NONE, NONE);
        t.x.lay(0, 15, NONE);
        borne(t, 0, NONE, NONE);
        t.x.lay(0, 14, NONE);
        t.due("fourteen", true, t.x.borne(0, 0) > 0);
        t.due("its set", t.x.borne(0, 0), Integer.bitCount(t.x.borne(0, 1)));
    }

    private static void everyOneIsBesideOneThatStays() {
        Talk t = Edge.of(Edge.TERMS, BORNE);
        // A row of seven: 1 2 and 5 6 stay, so that 0 3 and 4 each have one of them.
        t.told(0, "row 0 0 7;", 7);
        t.x.wall(0, 0);
        t.x.fill(0, 0);
        borne(t, 0, 3, 1 | 8 | 16);
        t.told(0, "row 0 0 2;row 3 0 2;", 4);
        t.x.wall(0, 0);
        t.x.fill(0, 0);
        borne(t, 0, 0, 0);
    }

    private static void howManyAndTheSet() {
        Talk t = Edge.of(24, ASK_BORNE);
        t.told(0, "pile 7 5 3;", 3);
        t.bricks(5, 0, 23, 22, 21);
        borne(t, 5, 1, 1);
        t.stands("the wall stays", 5, 23, 22, 21);
        t.x.set(40 + 23, 1);
        borne(t, 5, 1, 1);
    }

    private static void borneWithNobodyBeside() {
        Talk t = Edge.full(24, BORNE_NONE);
        t.told(3, "row 0 0 5;", 5);
        t.bricks(3, 3, 9);
        refusedBorne(t, 3);
        t.bricks(3, 3, 9, NONE, 8);
        refusedBorne(t, 3);
        t.bricks(3, 3, 9, 8, NONE, 7);
        refusedBorne(t, 3);
        t.bricks(3, 3, 9, 8, NONE, 7, 6);
        borne(t, 3, 0, 0);
    }

    private static void borneWithoutBricks() {
        Talk t = Edge.full(24, BORNE_NONE);
        refusedBorne(t, 3);
        t.x.wall(3, 0);
        refusedBorne(t, 3);
    }

    private static void borneOfMoreThan14() {
        Talk t = Edge.full(24, BORNE_NONE);
        refusedBorne(t, 4);
        t.told(3, "row 0 0 8;row 0 1 7;", 15);
        t.x.wall(3, 3);
        t.x.fill(3, 0);
        refusedBorne(t, 3);
    }

    private static void borneOfNoSuchOne() {
        Talk t = Edge.full(24, BORNE_NONE);
        for (int no : OUT_OF_SIX) {
            refusedBorne(t, no);
        }
        for (int what : new int[] {-1, 2, 3, LEAST, GREATEST}) {
            t.refused("what " + what, NONE, () -> t.x.borne(0, what));
        }
    }

    // Spares.

    private static void theLeastSparesFirst() {
        Talk t = Edge.of(Edge.TERMS, SPARES);
        t.told(0, "row 0 0 4;", 4);
        t.bricks(0, 0, 1, 2, 5, 3);
        for (int brick : new int[] {0, 1, 3, 6}) {
            t.x.set(40 + brick, 1);
        }
        // 0 and 6 are broken, 2 and 5 are in it: 4 and 7.
        t.due("two", 2, t.x.spares(0));
        t.stands("two", 0, 4, 2, 5, 7);
        t.due("none is broken then", 0, t.x.spares(0));
    }

    private static void asManySparesAsThereAre() {
        Talk t = Edge.of(Edge.TERMS, SPARES);
        t.told(0, ROWS_24, 24);
        t.told(1, "row 0 0 8;row 0 1 8;row 0 2 6;", 22);
        t.x.wall(0, 0);
        t.x.fill(0, 0);
        t.due("none is broken", 0, t.x.spares(0));
        t.x.set(45, 1);
        t.due("all bricks are in it", 0, t.x.spares(0));
        t.due("it stays", 5, t.x.at(0, 5));
        t.x.wall(1, 1);
        t.x.fill(1, 0);
        t.x.set(40, 1);
        t.x.set(61, 1);
        t.due("two spares for three", 2, t.x.spares(1));
        t.due("cell 0", 22, t.x.at(1, 0));
        t.due("cell 5", 23, t.x.at(1, 5));
        t.due("cell 21", 21, t.x.at(1, 21));
    }

    private static void allAreBroken() {
        Talk t = Edge.of(Edge.TERMS, SPARES);
        t.told(0, "row 0 0 3;", 3);
        t.bricks(0, 0, 0, NONE, 23);
        for (int brick = 0; brick < 24; brick++) {
            t.x.set(40 + brick, 1);
        }
        t.due("no spare", 0, t.x.spares(0));
        t.stands("it stays", 0, 0, NONE, 23);
        t.x.set(63, 0);
        t.due("the only whole one is in it", 0, t.x.spares(0));
        t.x.set(62, 0);
        t.due("one spare", 1, t.x.spares(0));
        t.stands("one spare", 0, 22, NONE, 23);
    }

    private static void whatWasTakenOutIsNoSpare() {
        Talk t = Edge.of(Edge.TERMS, SPARES);
        t.told(0, "row 0 0 2;", 2);
        t.bricks(0, 0, 0, 1);
        t.x.set(40, 1);
        t.x.set(41, 1);
        t.due("two", 2, t.x.spares(0));
        t.stands("two", 0, 2, 3);
        t.x.set(42, 1);
        t.x.set(40, 0);
        t.due("whole again", 1, t.x.spares(0));
        t.stands("whole again", 0, 0, 3);
    }

    private static void sparesOfOtherWalls() {
        Talk t = Edge.of(25, ASK_SPARES);
        t.told(0, "row 0 0 2;", 2);
        t.bricks(0, 0, 0, 1);
        t.bricks(5, 0, 0, 2);
        t.x.set(40, 1);
        t.due("wall 5", 1, t.x.spares(5));
        t.stands("wall 5", 5, 1, 2);
        t.stands("wall 0 stays", 0, 0, 1);
        t.due("empty cells", 0, t.x.spares(3));
        t.x.wall(3, 0);
        t.due("empty cells", 0, t.x.spares(3));
    }

    private static void sparesOfNoSuchWall() {
        Talk t = Edge.full(25, ASK_SPARES);
        for (int brick = 0; brick < 12; brick++) {
            t.x.set(40 + brick, 1);
        }
        for (int no : OUT_OF_SIX) {
            t.refused("wall " + no, NONE, () -> t.x.spares(no));
        }
    }

    // Doors.

    private static void partsOfARow() {
        Talk t = Edge.of(Edge.TERMS, DOOR);
        t.told(0, "row 0 0 5;", 5);
        t.x.wall(0, 0);
        t.x.fill(0, 0);
        int[][] doors = {{1, 0}, {2, 1}, {2, 0}, {2, 1}, {1, 0}};
        for (int i = 0; i < 5; i++) {
            door(t, 0, i, doors[i][0], doors[i][1]);
        }
        t.stands("the wall stays", 0, 0, 1, 2, 3, 4);
    }

    private static void theOnlyBrick() {
        Talk t = Edge.of(Edge.TERMS, DOOR);
        t.told(0, "row 0 0 3;", 3);
        t.bricks(0, 0, NONE, 4, NONE);
        door(t, 0, 1, 0, 0);
        t.bricks(0, 0, 3, 4, NONE);
        door(t, 0, 1, 1, 1);
    }

    private static void partsThatWereApartBefore() {
        Talk t = Edge.of(Edge.TERMS, DOOR);
        t.told(0, "cell 7 0;cell 0 1;cell 4 4;cell 5 5;cell 0 7;", 5);
        t.x.wall(0, 0);
        t.x.fill(0, 0);
        for (int i = 0; i < 5; i++) {
            door(t, 0, i, 4, 4);
        }
    }

    private static void aRingDoesNotFallApart() {
        Talk t = Edge.of(Edge.TERMS, DOOR);
        t.told(0, "row 0 0 3;row 0 1 3;row 0 2 3;hole 1 1;", 8);
        t.x.wall(0, 0);
        t.x.fill(0, 0);
        for (int i = 0; i < 8; i++) {
            door(t, 0, i, 1, 0);
        }
        t.x.lay(0, 0, NONE);
        door(t, 0, 7, 2, 0);
    }

    private static void aLongWayHangsTogether() {
        Talk t = Edge.of(Edge.TERMS, DOOR);
        // A snake of 24 cells without short cuts.
        t.told(0, "row 0 0 8;cell 7 1;row 0 2 8;cell 0 3;row 0 4 6;", 24);
        t.x.wall(0, 0);
        t.x.fill(0, 0);
        door(t, 0, 0, 1, 0);
        door(t, 0, 23, 1, 0);
        door(t, 0, 8, 2, 0);
        door(t, 0, 22, 2, 1);
    }

    private static void doorAtACell() {
        Talk t = Edge.of(26, ASK_DOOR);
        t.told(0, "row 0 1 3;pile 1 0 3;", 5);
        t.bricks(5, 0, 9, 8, 7, 6, 5);
        door(t, 5, 2, 4, 4);
        door(t, 5, 0, 1, 0);
    }

    private static void doorAtAnEmptyCell() {
        Talk t = Edge.full(26, DOOR_NONE);
        for (int what = 0; what < 2; what++) {
            int asked = what;
            t.refused("empty", NONE, () -> t.x.door(1, 2, asked));
            t.refused("no cells", NONE, () -> t.x.door(3, 0, asked));
        }
    }

    private static void doorOfNoSuchOne() {
        Talk t = Edge.full(26, DOOR_NONE);
        for (int no : OUT_OF_SIX) {
            t.refused("wall " + no, NONE, () -> t.x.door(no, 0, 0));
            t.refused("cell " + no, NONE, () -> t.x.door(0, no, 0));
        }
        t.refused("cell 24 of 24", NONE, () -> t.x.door(4, 24, 0));
        for (int what : new int[] {-1, 2, 3, LEAST, GREATEST}) {
            t.refused("what " + what, NONE, () -> t.x.door(0, 0, what));
        }
    }

    // Older walls.

    private static void allFourAnswers() {
        Talk t = walls(Edge.of(Edge.TERMS, OLDER));
        t.due("neither", 0, t.x.older(0, 2, 0));
        t.due("the second from the first", 1, t.x.older(0, 1, 0));
        t.due("the first from the second", 2, t.x.older(1, 0, 0));
        t.due("both", 3, t.x.older(0, 0, 0));
        t.x.set(1, 1);
        t.due("one is borne", 3, t.x.older(0, 1, 0));
        t.due("one is borne", 3, t.x.older(1, 0, 0));
    }

    private static void olderOfEmptyWalls() {
        Talk t = walls(Edge.of(Edge.TERMS, OLDER));
        t.due("two without cells", 3, t.x.older(4, 5, 0));
        t.due("the same without cells", 3, t.x.older(5, 5, 0));
        t.due("nothing from bricks", 1, t.x.older(0, 5, 0));
        t.due("bricks from nothing", 2, t.x.older(5, 0, 0));
    }

    private static void tellsOfTheSameWall() {
        Talk t = walls(Edge.of(Edge.TERMS, TELLS));
        // Without one of 0 1 2, the whole wall is not good from the rest; without 1, neither.
        t.due("all three", 3, t.x.older(0, 0, 1));
        t.stands("it stays", 0, 0, 1, 2);
        t.x.set(1, 3);
        t.due("all is borne", 0, t.x.older(0, 0, 1));
        t.x.set(1, 2);
        // Without 1 nobody is left beside another: three are bad from that.
        t.due("two are borne", 1, t.x.older(0, 0, 1));
    }

    private static void tellsOfTheSecondAlone() {
        Talk t = walls(Edge.of(Edge.TERMS, TELLS));
        // Of 0 1 after 0 1 2: without either the other is bad.
        t.due("two of two", 2, t.x.older(0, 1, 1));
        // Of 0 1 2 after 0 1: without 2 both are good; without 0 or 1 the first is not good any more.
        t.due("three of three", 3, t.x.older(1, 0, 1));
    }

    private static void tellsOfTwentyFour() {
        Talk t = Edge.of(Edge.TERMS, TELLS);
        t.told(0, ROWS_24, 24);
        t.x.wall(0, 0);
        t.x.fill(0, 0);
        // Without any of them, that one is bad in the whole wall.
        t.due("all", 24, t.x.older(0, 0, 1));
        t.x.set(1, 1);
        t.due("one is borne", 0, t.x.older(0, 0, 1));
        t.due("still there", 24, t.x.look(30));
    }

    private static void tellsOfEmptyWalls() {
        Talk t = walls(Edge.of(Edge.TERMS, TELLS));
        t.due("no bricks", 0, t.x.older(0, 5, 1));
        t.due("no bricks in both", 0, t.x.older(4, 5, 1));
        t.bricks(3, 0, NONE, 7, NONE);
        // One brick is bad from nothing; without it both are good.
        t.due("from nothing", 1, t.x.older(5, 3, 1));
    }

    private static void olderAndTells() {
        Talk t = walls(Edge.of(27, ASK_OLDER));
        t.due("older", 1, t.x.older(0, 1, 0));
        t.due("tells", 2, t.x.older(0, 1, 1));
    }

    private static void olderOfNoSuchOne() {
        Talk t = Edge.full(27, OLDER_NONE);
        for (int what = 0; what < 2; what++) {
            int asked = what;
            for (int no : OUT_OF_SIX) {
                t.refused("first " + no, NONE, () -> t.x.older(no, 0, asked));
                t.refused("second " + no, NONE, () -> t.x.older(0, no, asked));
            }
        }
    }

    private static void anotherWhatOfOlder() {
        Talk t = Edge.full(27, OLDER_NONE);
        for (int what : new int[] {-1, 2, 3, LEAST, GREATEST}) {
            t.refused("what " + what, NONE, () -> t.x.older(0, 0, what));
        }
    }

    private static void parted(Talk t, String shape, int... couples) {
        t.due("text", true, t.tell(0, shape) > 0);
        for (int c = 0; c <= 12; c++) {
            int can = 0;
            for (int one : couples) {
                can = one == c ? 1 : can;
            }
            t.due(c + " couples of " + shape, can, t.x.parting(0, c));
        }
    }

    private static void mostCouples(Talk t, String shape, int most) {
        t.due("text", true, t.tell(0, shape) > 0);
        t.due("most couples of " + shape, most, t.x.parting(0, NONE));
    }

    /** Fewest bad, most kept, how many good, then the first best row. */
    private static void layings(Talk t, int a, int shape, int... want) {
        for (int i = 0; i < want.length; i++) {
            int what = i < 3 ? i : 7 + i;
            t.due("layings " + a + " " + shape + " " + what, want[i], t.x.layings(a, shape, what));
        }
    }

    private static void ordered(Talk t, int a, int b, int starts, int... bricks) {
        t.due("starts of " + b + " with " + a, starts, t.x.order(a, b, 0));
        for (int i = 0; i < bricks.length; i++) {
            t.due("order " + a + " " + b + " " + i, bricks[i], t.x.order(a, b, 10 + i));
        }
        t.due("one more", NONE, t.x.order(a, b, 10 + bricks.length));
    }

    private static void borne(Talk t, int w, int many, int set) {
        t.due("how many", many, t.x.borne(w, 0));
        t.due("the set", set, t.x.borne(w, 1));
    }

    private static void refusedBorne(Talk t, int w) {
        t.refused("how many", NONE, () -> t.x.borne(w, 0));
        t.refused("the set", NONE, () -> t.x.borne(w, 1));
    }

    private static void door(Talk t, int w, int cell, int parts, int nobody) {
        t.due("parts at " + cell, parts, t.x.door(w, cell, 0));
        t.due("nobody at " + cell, nobody, t.x.door(w, cell, 1));
    }

    /** Rows: wall 0 of 0 1 2, wall 1 of 0 1, wall 2 of 0 2 1, walls 4 and 5 without cells. */
    private static Talk walls(Talk t) {
        t.told(0, "row 0 0 3;", 3);
        t.bricks(0, 0, 0, 1, 2);
        t.bricks(1, 0, 0, 1);
        t.bricks(2, 0, 0, 2, 1);
        return t;
    }
}
