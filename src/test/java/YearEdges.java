/** Sentences about draws, years, who has met whom and the red brick: promises 2, 17 to 20 and 28. */
final class YearEdges {
    private static final int NONE = OldNeighbours.NONE;
    private static final int CANT = NONE - 1;
    private static final int LEAST = Integer.MIN_VALUE;
    private static final int GREATEST = Integer.MAX_VALUE;

    private static final String DRAWS = "There is one STATE of draws (an int, 0 at first); a DRAW of m: it becomes 1664525 times"
            + " itself + 1013904223 (ints, which wrap), then it is its highest 24 bits (without sign) modulo m.";
    private static final String LEFT = "The LEFT one of a BRICK is that in the cell of x one less.";
    private static final String YEAR = "A YEAR by a RULE: WALL 0 is put up again in a told SHAPE by the way of the first line whose B"
            + " is so (or that has none), same without one: year: YEAR (0 at first), cells (of that SHAPE), bad, kept: BAD, KEPT"
            + " ones if it was put up as same; met: how many couples have MET.";
    private static final String ONE_MORE = "YEAR is one more.";
    private static final String HAVE_MET = "Couples that are BESIDE one another in a WALL 0 behind a YEAR have MET (and are TOGETHER"
            + " in this YEAR).";
    private static final String HISTORY = "The HISTORY keeps for 60 YEARS at most (no more then): how many were BAD, KEPT, GOOD or"
            + " not, which were BESIDE.";
    private static final String MET = "MET: couples that have MET; NEVER: of all BRICKS of WALL 0 as it is those couples that have"
            + " not; ALWAYS: couples BESIDE one another in all YEARS of the HISTORY; FIRST of two: the first YEAR in which they were;"
            + " APART: the longest row of YEARS of the HISTORY in which they were not.";
    private static final String SOONEST = "SOONEST: the fewest YEARS in which all couples of the BRICKS of WALL 0 can have MET in its"
            + " SHAPE: couples of BRICKS by couples of cells that TOUCH, upwards.";
    private static final String RED = "RED: of all YEARS of the HISTORY in how many a BRICK had the LEFT one that it had in the first"
            + " of these (0 if none).";
    private static final String STATE = "STATE is told: what it was.";
    private static final String YEARS = "YEARS (1 .. 30) of WALL 0 by a RULE in a SHAPE: how many of them were GOOD; NONE if one can't"
            + " be (a SHAPE without cells, WALL 0 without BRICKS, YEAR beyond 999).";
    private static final String ASK_HISTORY = "Of YEAR i of the HISTORY (from 0) what 0 BAD, 1 KEPT, 2 GOOD (1, 0), 3 couples BESIDE"
            + " one another.";
    private static final String HISTORY_NONE = "NONE if there is none such, or another what.";
    private static final String ASK_MET = "What 0 MET, 1 NEVER, 2 ALWAYS, 3 SOONEST (NONE if no cells TOUCH), 4 YEAR, 5 YEARS of the"
            + " HISTORY.";
    private static final String MET_NONE = "NONE for another what.";
    private static final String TWO = "Of two BRICKS what 0 FIRST (NONE: never), 1 APART, 2 1 if they have MET, else 0.";
    private static final String TWO_NONE = "NONE - 1 if one can't be (the same), or another what.";
    private static final String ASK_RED = "RED of a BRICK what 0 in how many YEARS, 1 which it was (NONE).";
    private static final String RED_NONE = "NONE - 1 if one can't be, or another what.";

    private YearEdges() {
    }

    // Draws.

    private static void theStateIs0AtFirst() {
        Talk t = Edge.of(Edge.TERMS, DRAWS);
        t.due("look", 0, t.x.look(2));
        t.due("state", 0, t.x.state(0));
    }

    private static void drawsWrapAndHaveNoSign() {
        Talk t = Edge.of(Edge.TERMS, DRAWS);
        for (int start : new int[] {0, 1, -1, 2, LEAST, GREATEST, 1013904223, -775096599, 0x7fffff00, 0x80000100}) {
            for (int m = 2; m <= 8; m++) {
                t.told(0, "row 0 0 " + m + ";", m);
                t.bricks(0, 0, 9);
                t.x.state(start);
                t.x.again(0, 1, 0, 6, 0);
                long state = start & 0xffffffffL;
                int place = 0;
                for (int i = m - 1; i > 0; i--) {
                    state = (1664525L * state + 1013904223L) % (1L << 32);
                    int other = (int) (state / 256 % (i + 1));
                    place = place == i ? other : place == other ? i : place;
                }
                t.due("place of " + m + " from " + start, 9, t.x.at(1, place));
                t.due("state", (int) state, t.x.look(2));
            }
        }
    }

    private static void onlyMixDraws() {
        Talk t = row(Edge.of(Edge.TERMS, DRAWS), 3);
        t.x.state(7);
        for (int way = 0; way < 6; way++) {
            t.x.again(0, 1, 0, way, 1);
            t.due("way " + way, 7, t.x.look(2));
        }
        t.told(6, "mix when 1=2;same;", 2);
        t.x.years(0, 0, 30);
        t.due("a line that is not so", 7, t.x.look(2));
        t.told(6, "mix;", 1);
        t.x.years(0, 0, 1);
        t.due("two draws a year", next(next(7)), t.x.look(2));
    }

    private static void anyStateIsTold() {
        Talk t = Edge.of(2, STATE);
        int before = 0;
        for (int v : new int[] {LEAST, GREATEST, -1, 1, 0, 0}) {
            t.due("state " + v, before, t.x.state(v));
            t.due("look", v, t.x.look(2));
            before = v;
        }
    }

    // The left one and the red brick.

    private static void atX0NobodyIsLeft() {
        Talk t = Edge.of(Edge.TERMS, LEFT);
        t.told(0, "cell 7 0;row 0 1 2;cell 7 1;", 4);
        t.bricks(0, 0, 3, 4, 5, 6);
        t.x.years(0, 0, 1);
        int[] left = {NONE, NONE, 4, NONE};
        for (int i = 0; i < 4; i++) {
            t.due("left of " + (3 + i), left[i], t.x.red(3 + i, 1));
        }
    }

    private static void anEmptyCellIsNotTheLeftOne() {
        Talk t = Edge.of(Edge.TERMS, LEFT);
        t.told(0, "row 0 0 4;", 4);
        t.told(6, "shift 2;", 1);
        t.bricks(0, 0, 8, 9, 10);
        // 10 NONE 8 9
        t.x.years(0, 0, 1);
        t.stands("shifted", 0, 10, NONE, 8, 9);
        t.due("left of 8", NONE, t.x.red(8, 1));
        t.due("left of 9", 8, t.x.red(9, 1));
        t.due("left of 10", NONE, t.x.red(10, 1));
    }

    private static void aboveAndBelowAreNotLeft() {
        Talk t = Edge.of(Edge.TERMS, LEFT);
        t.told(0, "pile 3 0 3;", 3);
        t.bricks(0, 0, 0, 1, 2);
        t.x.years(0, 0, 1);
        for (int brick = 0; brick < 3; brick++) {
            t.due("left of " + brick, NONE, t.x.red(brick, 1));
        }
    }

    private static void redWithoutYears() {
        Talk t = row(Edge.of(Edge.TERMS, RED), 3);
        for (int brick = 0; brick < 24; brick++) {
            t.due("how many", 0, t.x.red(brick, 0));
            t.due("which", NONE, t.x.red(brick, 1));
        }
    }

    private static void redCountsTheFirstYearToo() {
        Talk t = row(Edge.of(Edge.TERMS, RED), 3);
        t.x.years(0, 0, 1);
        t.due("one year", 1, t.x.red(1, 0));
        t.x.years(0, 0, 30);
        t.due("31 years", 31, t.x.red(1, 0));
    }

    private static void redWithNobodyLeftAtFirst() {
        Talk t = row(Edge.of(Edge.TERMS, RED), 3);
        t.told(6, "back when year=1;", 1);
        t.x.years(0, 0, 4);
        // 0 1 2, then 2 1 0: brick 0 has a left one only later.
        t.due("how many", 0, t.x.red(0, 0));
        t.due("which", NONE, t.x.red(0, 1));
        t.due("how many of 1", 1, t.x.red(1, 0));
        t.due("which of 1", 0, t.x.red(1, 1));
    }

    private static void redYearsNeedNotFollowOneAnother() {
        Talk t = row(Edge.of(Edge.TERMS, RED), 3);
        t.told(6, "back when year>0;", 1);
        t.x.years(0, 0, 5);
        t.due("years 0, 2 and 4", 3, t.x.red(1, 0));
        t.due("years 0, 2 and 4", 3, t.x.red(2, 0));
    }

    private static void redOfABrickThatWasNotThere() {
        Talk t = row(Edge.of(Edge.TERMS, RED), 3);
        t.x.years(0, 0, 1);
        t.bricks(0, 0, 0, 9, 1);
        t.x.years(0, 0, 2);
        t.due("9", 0, t.x.red(9, 0));
        t.due("which of 9", NONE, t.x.red(9, 1));
        t.due("1", 1, t.x.red(1, 0));
        t.due("2, gone", 1, t.x.red(2, 0));
    }

    private static void redOfSixtyYearsAtMost() {
        Talk t = row(Edge.of(Edge.TERMS, RED), 3);
        for (int i = 0; i < 3; i++) {
            t.x.years(0, 0, 30);
        }
        t.due("sixty of ninety", 60, t.x.red(1, 0));
    }

    private static void whichItWas() {
        Talk t = Edge.of(28, ASK_RED);
        t.told(0, "row 0 0 2;", 2);
        t.bricks(0, 0, 23, 0);
        t.x.years(0, 0, 1);
        t.due("0 has 23", 23, t.x.red(0, 1));
        t.due("0 in years", 1, t.x.red(0, 0));
        t.due("23 has none", NONE, t.x.red(23, 1));
        t.due("23 in years", 0, t.x.red(23, 0));
    }

    private static void redOfNoSuchBrick() {
        Talk t = Edge.full(28, RED_NONE);
        for (int brick : new int[] {-1, 24, 25, LEAST, GREATEST}) {
            t.refused("red " + brick, CANT, () -> t.x.red(brick, 0));
            t.refused("red " + brick, CANT, () -> t.x.red(brick, 1));
        }
    }

    private static void anotherWhatOfRed() {
        Talk t = Edge.full(28, RED_NONE);
        for (int what : new int[] {-1, 2, 3, LEAST, GREATEST}) {
            t.refused("what " + what, CANT, () -> t.x.red(0, what));
        }
    }

    // A year.

    private static void theFirstLineThatIsSo() {
        Talk t = row(Edge.of(Edge.TERMS, YEAR), 3);
        t.told(6, "same when 1=2;shift 1;back;", 3);
        t.x.years(0, 0, 1);
        t.stands("the second", 0, 2, 0, 1);
        t.told(6, "same when 1=1;back;", 2);
        t.x.years(0, 0, 1);
        t.stands("the first", 0, 2, 0, 1);
        t.told(6, "same when 1=2;".repeat(15) + "back when 1=1;", 16);
        t.x.years(0, 0, 1);
        t.stands("the sixteenth", 0, 1, 0, 2);
    }

    private static void sameWithoutALine() {
        Talk t = row(Edge.of(Edge.TERMS, YEAR), 3);
        t.told(6, "back when 1=2;mix when 2<1;", 2);
        t.x.years(0, 0, 1);
        t.stands("none is so", 0, 0, 1, 2);
        t.told(6, "", 0);
        t.x.years(0, 0, 1);
        t.stands("there is none", 0, 0, 1, 2);
    }

    private static void yearIs0AtFirstAndCountsOn() {
        Talk t = row(Edge.of(Edge.TERMS, YEAR), 3);
        t.told(6, "shift 1 when year=0 or year=2;", 1);
        t.x.years(0, 0, 1);
        t.stands("year 0", 0, 2, 0, 1);
        t.x.years(0, 0, 1);
        t.stands("year 1", 0, 2, 0, 1);
        t.x.years(0, 0, 1);
        t.stands("year 2", 0, 1, 2, 0);
    }

    private static void cellsAreOfTheToldShape() {
        Talk t = row(Edge.of(Edge.TERMS, YEAR), 3);
        t.told(1, "row 0 0 5;", 5);
        t.told(6, "back when cells=5;", 1);
        t.x.years(0, 0, 1);
        t.stands("three cells", 0, 0, 1, 2);
        t.x.years(0, 1, 1);
        t.stands("five cells", 0, NONE, NONE, 2, 1, 0);
    }

    private static void badAndKeptAreAsIfSame() {
        Talk t = row(Edge.of(Edge.TERMS, YEAR), 4);
        t.told(1, "row 0 0 2;row 0 1 2;", 4);
        t.told(2, "cell 0 0;cell 2 0;cell 4 0;cell 6 0;", 4);
        // As same, 0 1 below 2 3: couples 0 1 and 2 3 are kept.
        t.told(6, "back when bad=0 and kept=2;", 1);
        t.x.years(0, 1, 1);
        t.stands("two kept", 0, 3, 2, 1, 0);
        t.told(6, "back when bad=4 and kept=0;", 1);
        t.x.years(0, 2, 1);
        t.stands("all bad", 0, 0, 1, 2, 3);
    }

    private static void aBrickLeftOverIsNotBad() {
        Talk t = row(Edge.of(Edge.TERMS, YEAR), 4);
        t.told(1, "row 0 0 2;", 2);
        t.told(6, "back when bad=0 and kept=1 and cells=2;", 1);
        t.due("good", 1, t.x.years(0, 1, 1));
        t.stands("back", 0, 1, 0);
    }

    private static void metIsOfTheYearsBefore() {
        Talk t = row(Edge.of(Edge.TERMS, YEAR), 3);
        t.told(6, "back when met=0;shift 1 when met=2;", 2);
        t.x.years(0, 0, 1);
        t.stands("nobody yet", 0, 2, 1, 0);
        t.x.years(0, 0, 1);
        t.stands("two couples", 0, 0, 2, 1);
        t.due("three couples", 3, t.x.met(0));
    }

    private static void yearIsOneMore() {
        Talk t = row(Edge.of(Edge.TERMS, ONE_MORE), 3);
        t.due("at first", 0, t.x.met(4));
        t.x.years(0, 0, 1);
        t.due("one", 1, t.x.met(4));
        t.x.years(0, 0, 30);
        t.due("31", 31, t.x.met(4));
        t.x.years(0, 0, 31);
        t.due("refused", 31, t.x.met(4));
    }

    private static void behindAYearNotAhead() {
        Talk t = row(Edge.of(Edge.TERMS, HAVE_MET), 3);
        t.due("laid, not met", 0, t.x.met(0));
        t.told(6, "shift 1;", 1);
        t.x.years(0, 0, 1);
        // 2 0 1: what was ahead, couple 1 2, has not met.
        t.due("met", 2, t.x.met(0));
        t.due("0 2", 1, t.x.two(0, 2, 2));
        t.due("0 1", 1, t.x.two(0, 1, 2));
        t.due("1 2", 0, t.x.two(1, 2, 2));
    }

    private static void thoseAboveOneAnotherMeetToo() {
        Talk t = Edge.of(Edge.TERMS, HAVE_MET);
        t.told(0, "row 0 0 2;row 0 1 2;", 4);
        t.x.wall(0, 0);
        t.x.fill(0, 0);
        t.x.years(0, 0, 1);
        t.due("met", 4, t.x.met(0));
        t.due("never", 2, t.x.met(1));
        t.due("above", 0, t.x.two(1, 3, 0));
        t.due("slanting", NONE, t.x.two(0, 3, 0));
    }

    private static void onlyWall0Meets() {
        Talk t = row(Edge.of(Edge.TERMS, HAVE_MET), 3);
        t.bricks(1, 0, 10, 11, 12);
        t.x.years(0, 0, 1);
        t.due("wall 1", 0, t.x.two(10, 11, 2));
        t.x.again(1, 0, 0, 0, 0);
        t.due("put up again by hand", 0, t.x.two(10, 11, 2));
    }

    private static void coupleMeetsOnce() {
        Talk t = row(Edge.of(Edge.TERMS, HAVE_MET), 3);
        t.x.years(0, 0, 30);
        t.due("met", 2, t.x.met(0));
    }

    private static void allCouplesOf24() {
        Talk t = Edge.of(Edge.TERMS, HAVE_MET);
        t.told(0, "row 0 0 8;row 0 1 8;row 0 2 8;", 24);
        t.told(6, "mix;", 1);
        t.x.wall(0, 0);
        t.x.fill(0, 0);
        for (int i = 0; i < 10; i++) {
            t.x.years(0, 0, 30);
        }
        t.due("all have met", 276, t.x.met(0));
        t.due("none never", 0, t.x.met(1));
    }

    private static void sixtyYearsAtMost() {
        Talk t = row(Edge.of(Edge.TERMS, HISTORY), 3);
        t.x.years(0, 0, 30);
        t.x.years(0, 0, 29);
        t.due("59", 59, t.x.met(5));
        t.due("year 59 is not yet", NONE, t.x.history(59, 3));
        t.told(1, "cell 0 0;", 1);
        t.x.years(0, 1, 1);
        t.due("60", 60, t.x.met(5));
        t.due("year 59", 0, t.x.history(59, 3));
        t.x.years(0, 1, 1);
        t.due("no more", 60, t.x.met(5));
        t.due("YEAR", 61, t.x.met(4));
        t.due("year 60", NONE, t.x.history(60, 0));
        t.due("year 0 stays", 2, t.x.history(0, 3));
        t.due("year 59 stays", 0, t.x.history(59, 3));
    }

    private static void sixtyYearsWithinOneCall() {
        Talk t = row(Edge.of(Edge.TERMS, HISTORY), 3);
        t.told(6, "back when year>58;", 1);
        t.x.years(0, 0, 30);
        t.x.years(0, 0, 20);
        t.due("years 50 to 79", 30, t.x.years(0, 0, 30));
        t.due("60", 60, t.x.met(5));
        t.due("YEAR", 80, t.x.met(4));
    }

    private static void metGoesOnBeyondTheHistory() {
        Talk t = row(Edge.of(Edge.TERMS, MET), 3);
        t.told(6, "shift 1 when year=60;", 1);
        t.x.years(0, 0, 30);
        t.x.years(0, 0, 30);
        t.due("before", 2, t.x.met(0));
        t.due("never", 1, t.x.met(1));
        t.x.years(0, 0, 1);
        t.due("then", 3, t.x.met(0));
        t.due("never", 0, t.x.met(1));
        t.due("ALWAYS of the HISTORY", 2, t.x.met(2));
        t.due("FIRST", 60, t.x.two(0, 2, 0));
        t.due("APART of the HISTORY", 60, t.x.two(0, 2, 1));
        t.due("APART of the HISTORY", 0, t.x.two(1, 2, 1));
    }

    private static void neverOfWall0AsItIs() {
        Talk t = row(Edge.of(Edge.TERMS, MET), 3);
        t.due("all couples of 3", 3, t.x.met(1));
        t.x.lay(0, 2, NONE);
        t.due("all couples of 2", 1, t.x.met(1));
        t.x.lay(0, 1, NONE);
        t.due("of one", 0, t.x.met(1));
        t.x.lay(0, 0, NONE);
        t.due("of none", 0, t.x.met(1));
        t.told(1, "row 0 0 8;row 0 1 8;row 0 2 8;", 24);
        t.x.wall(0, 1);
        t.x.fill(0, 0);
        t.due("of 24", 276, t.x.met(1));
    }

    private static void emptyCellsAreNoOneWhoNeverMet() {
        Talk t = Edge.of(Edge.TERMS, MET);
        t.told(0, "row 0 0 5;", 5);
        t.bricks(0, 0, NONE, 4, NONE, 5, NONE);
        t.due("one couple", 1, t.x.met(1));
        t.x.years(0, 0, 1);
        // As same 4 and 5 stand side by side.
        t.due("none", 0, t.x.met(1));
        t.bricks(0, 0, NONE, NONE, 4, NONE, 5);
        t.due("none, apart again", 0, t.x.met(1));
        t.bricks(0, 0, NONE, 6, 4, NONE, 5);
        t.due("6 with both", 2, t.x.met(1));
    }

    private static void alwaysWithoutYears() {
        Talk t = row(Edge.of(Edge.TERMS, MET), 3);
        t.due("no years", 0, t.x.met(2));
        t.x.years(0, 0, 1);
        t.due("one year", 2, t.x.met(2));
        t.told(6, "shift 1;", 1);
        t.x.years(0, 0, 1);
        t.due("0 1 alone", 1, t.x.met(2));
        t.x.years(0, 0, 1);
        // 1 2 0: neither 0 1 nor any other in all three.
        t.due("none", 0, t.x.met(2));
    }

    private static void theLongestRowApart() {
        Talk t = row(Edge.of(Edge.TERMS, MET), 3);
        // Couple 0 2 is beside one another in years 2, 3 and 6: apart 0 1, 4 5, 7 8 9.
        t.told(6, "shift 1 when year=2;shift 2 when year=4;shift 1 when year=6;shift 2 when year=7;", 4);
        t.x.years(0, 0, 7);
        t.due("two years", 2, t.x.two(0, 2, 1));
        t.x.years(0, 0, 2);
        t.due("two years still", 2, t.x.two(0, 2, 1));
        t.x.years(0, 0, 1);
        t.due("three years", 3, t.x.two(0, 2, 1));
        t.due("FIRST", 2, t.x.two(0, 2, 0));
    }

    private static void soonestGoesUpwards() {
        Talk t = Edge.of(Edge.TERMS, SOONEST);
        // 2 times 2: 4 couples of cells.
        t.told(0, "row 0 0 2;row 0 1 2;", 4);
        int[] soonest = {0, 0, 1, 1, 2};
        t.x.wall(0, 0);
        for (int n = 0; n <= 4; n++) {
            t.due(n + " bricks", soonest[n], t.x.met(3));
            t.x.lay(0, n, n);
        }
        // A row of 4: 6 couples by 3, a row of 5: 10 by 4.
        t.told(0, "row 0 0 4;", 4);
        t.x.wall(0, 0);
        t.x.fill(0, 0);
        t.due("6 by 3", 2, t.x.met(3));
        t.told(0, "row 0 0 5;", 5);
        t.x.wall(0, 0);
        t.x.fill(0, 0);
        t.due("10 by 4", 3, t.x.met(3));
        t.told(0, "row 0 0 8;row 0 1 8;row 0 2 8;", 24);
        t.x.wall(0, 0);
        t.x.fill(0, 0);
        t.due("276 by 37", 8, t.x.met(3));
    }

    private static void soonestIsOfWall0AndItsShape() {
        Talk t = row(Edge.of(Edge.TERMS, SOONEST), 4);
        t.told(0, "cell 0 0;", 1);
        t.due("the shape as it was", 2, t.x.met(3));
        t.x.wall(1, 0);
        t.due("other walls are not asked", 2, t.x.met(3));
        t.told(6, "back;", 1);
        t.told(1, "row 0 0 4;", 4);
        t.x.years(0, 1, 3);
        t.due("who has met is not asked", 2, t.x.met(3));
    }

    // Promises 17 to 20.

    private static void oneToThirtyYears() {
        Talk t = row(Edge.of(17, YEARS), 3);
        t.due("1", 1, t.x.years(0, 0, 1));
        t.due("30", 30, t.x.years(0, 0, 30));
        for (int n : new int[] {0, -1, 31, 32, LEAST, GREATEST}) {
            t.refused("years " + n, NONE, () -> t.x.years(0, 0, n));
        }
    }

    private static void yearsInAShapeWithoutCells() {
        Talk t = Edge.full(17, YEARS);
        t.refused("years", NONE, () -> t.x.years(0, 3, 1));
        t.told(0, "", 0);
        t.refused("wall 0 still has bricks", NONE, () -> t.x.years(0, 0, 1));
    }

    private static void yearsOfAWallWithoutBricks() {
        Talk t = Edge.full(17, YEARS);
        t.x.wall(0, 0);
        t.refused("empty cells", NONE, () -> t.x.years(0, 0, 1));
        t.x.wall(0, 3);
        t.refused("no cells", NONE, () -> t.x.years(0, 0, 1));
        t.x.wall(0, 0);
        t.x.lay(0, 5, 0);
        t.due("one brick", true, t.x.years(0, 0, 1) >= 0);
    }

    private static void yearsByNoSuchRule() {
        Talk t = Edge.full(17, YEARS);
        for (int no : new int[] {-1, 3, 6, LEAST, GREATEST}) {
            t.refused("rule " + no, NONE, () -> t.x.years(no, 0, 1));
        }
        for (int no : new int[] {-1, 6, LEAST, GREATEST}) {
            t.refused("shape " + no, NONE, () -> t.x.years(0, no, 1));
        }
    }

    private static void yearBeyond999() {
        Talk t = row(Edge.of(17, YEARS), 3);
        for (int i = 0; i < 33; i++) {
            t.due("thirty", 30, t.x.years(0, 0, 30));
        }
        t.due("YEAR", 990, t.x.met(4));
        t.refused("10 more", NONE, () -> t.x.years(0, 0, 10));
        t.refused("30 more", NONE, () -> t.x.years(0, 0, 30));
        t.due("9 more", 9, t.x.years(0, 0, 9));
        t.due("YEAR", 999, t.x.met(4));
        t.refused("one more", NONE, () -> t.x.years(0, 0, 1));
    }

    private static void howManyWereGood() {
        Talk t = row(Edge.of(17, YEARS), 3);
        t.told(6, "shift 1 when year=1 or year=3;", 1);
        t.due("three of five", 3, t.x.years(0, 0, 5));
        t.x.set(1, 1);
        t.told(6, "shift 1;", 1);
        t.due("all are borne", 5, t.x.years(0, 0, 5));
        Talk one = Edge.of(17, YEARS);
        one.told(0, "cell 0 0;", 1);
        one.bricks(0, 0, 3);
        one.due("a single brick is bad", 0, one.x.years(0, 0, 30));
        one.x.set(1, 1);
        one.due("and borne", 30, one.x.years(0, 0, 30));
    }

    private static void bricksLeftOverAreGone() {
        Talk t = row(Edge.of(17, YEARS), 4);
        t.told(1, "row 0 0 2;", 2);
        t.x.years(0, 1, 1);
        t.stands("two", 0, 0, 1);
        t.x.years(0, 0, 1);
        t.stands("two in four cells", 0, 0, 1, NONE, NONE);
    }

    private static void eachYearOfTheHistory() {
        Talk t = row(Edge.of(18, ASK_HISTORY), 3);
        t.told(6, "shift 1 when year=1;", 1);
        t.told(1, "cell 0 0;", 1);
        t.x.years(0, 0, 2);
        t.x.years(0, 1, 1);
        int[][] years = {{0, 2, 1, 2}, {1, 1, 0, 2}, {1, 0, 0, 0}};
        for (int i = 0; i < 3; i++) {
            for (int what = 0; what < 4; what++) {
                t.due("history " + i + " " + what, years[i][what], t.x.history(i, what));
            }
        }
        t.x.set(1, 24);
        t.due("good as it was then", 0, t.x.history(1, 2));
    }

    private static void noSuchYear() {
        Talk t = Edge.full(18, HISTORY_NONE);
        for (int what = 0; what < 4; what++) {
            int asked = what;
            for (int i : new int[] {-1, 3, 59, 60, LEAST, GREATEST}) {
                t.refused("year " + i, NONE, () -> t.x.history(i, asked));
            }
            t.due("year 2", true, t.x.history(2, what) >= 0);
        }
        Talk none = Edge.of(18, HISTORY_NONE);
        none.due("no years", NONE, none.x.history(0, 0));
    }

    private static void anotherWhatOfHistory() {
        Talk t = Edge.full(18, HISTORY_NONE);
        for (int what : new int[] {-1, 4, 5, LEAST, GREATEST}) {
            t.refused("what " + what, NONE, () -> t.x.history(0, what));
        }
    }

    private static void soonestWhereNoCellsTouch() {
        Talk t = Edge.of(19, ASK_MET);
        t.due("no cells", NONE, t.x.met(3));
        t.told(0, "cell 7 0;cell 0 1;cell 3 3;", 3);
        t.x.wall(0, 0);
        t.due("no bricks", NONE, t.x.met(3));
        t.x.fill(0, 0);
        t.due("apart", NONE, t.x.met(3));
        t.told(0, "cell 3 3;", 1);
        t.x.wall(0, 0);
        t.x.fill(0, 0);
        t.due("one cell", NONE, t.x.met(3));
        t.told(0, "row 3 3 2;", 2);
        t.x.wall(0, 0);
        t.due("no bricks where cells touch", 0, t.x.met(3));
    }

    private static void allOfMetAtFirst() {
        Talk t = Edge.of(19, ASK_MET);
        int[] want = {0, 0, 0, NONE, 0, 0};
        for (int what = 0; what < 6; what++) {
            t.due("met " + what, want[what], t.x.met(what));
        }
    }

    private static void anotherWhatOfMet() {
        Talk t = Edge.full(19, MET_NONE);
        for (int what : new int[] {-1, 6, 7, LEAST, GREATEST}) {
            t.refused("what " + what, NONE, () -> t.x.met(what));
        }
    }

    private static void twoThatNeverMet() {
        Talk t = row(Edge.of(20, TWO), 3);
        t.due("FIRST without years", NONE, t.x.two(0, 1, 0));
        t.due("APART without years", 0, t.x.two(0, 1, 1));
        t.due("MET without years", 0, t.x.two(0, 1, 2));
        t.x.years(0, 0, 5);
        t.due("FIRST of 0 2", NONE, t.x.two(0, 2, 0));
        t.due("APART of 0 2", 5, t.x.two(0, 2, 1));
        t.due("MET of 0 2", 0, t.x.two(0, 2, 2));
        t.due("FIRST of two that are not there", NONE, t.x.two(22, 23, 0));
        t.due("APART of two that are not there", 5, t.x.two(22, 23, 1));
        t.due("APART of one that is not there", 5, t.x.two(0, 23, 1));
    }

    private static void twoInBothOrders() {
        Talk t = row(Edge.of(20, TWO), 3);
        t.told(6, "back;", 1);
        t.x.years(0, 0, 3);
        int[][] want = {{0, 0, 1}, {NONE, 3, 0}, {0, 0, 1}};
        int[][] twos = {{0, 1}, {0, 2}, {1, 2}};
        for (int i = 0; i < 3; i++) {
            for (int what = 0; what < 3; what++) {
                t.due("two", want[i][what], t.x.two(twos[i][0], twos[i][1], what));
                t.due("two", want[i][what], t.x.two(twos[i][1], twos[i][0], what));
            }
        }
    }

    private static void firstIsTheYearItselfNotTheNext() {
        Talk t = row(Edge.of(20, TWO), 3);
        t.told(6, "shift 1 when year=4;", 1);
        t.x.years(0, 0, 6);
        t.due("FIRST of 0 1", 0, t.x.two(0, 1, 0));
        t.due("FIRST of 0 2", 4, t.x.two(0, 2, 0));
        t.due("APART of 0 2", 4, t.x.two(0, 2, 1));
        t.due("APART of 1 2", 2, t.x.two(1, 2, 1));
    }

    private static void theSameBrickTwice() {
        Talk t = Edge.full(20, TWO_NONE);
        for (int what = 0; what < 3; what++) {
            int asked = what;
            for (int brick : new int[] {0, 5, 23}) {
                t.refused("two " + brick, CANT, () -> t.x.two(brick, brick, asked));
            }
        }
    }

    private static void twoOfNoSuchBrick() {
        Talk t = Edge.full(20, TWO_NONE);
        for (int what = 0; what < 3; what++) {
            int asked = what;
            for (int no : new int[] {-1, 24, LEAST, GREATEST}) {
                t.refused("first " + no, CANT, () -> t.x.two(no, 0, asked));
                t.refused("second " + no, CANT, () -> t.x.two(0, no, asked));
                t.refused("both " + no, CANT, () -> t.x.two(no, no, asked));
            }
        }
    }

    private static void anotherWhatOfTwo() {
        Talk t = Edge.full(20, TWO_NONE);
        for (int what : new int[] {-1, 3, 4, LEAST, GREATEST}) {
            t.refused("what " + what, CANT, () -> t.x.two(0, 1, what));
        }
    }

    private static int next(int state) {
        return (int) ((1664525L * state + 1013904223L) % (1L << 32));
    }

    /** Shape 0 is a row, wall 0 bricks from 0 on in it. */
    private static Talk row(Talk t, int n) {
        t.told(0, "row 0 0 " + n + ";", n);
        t.x.wall(0, 0);
        t.x.fill(0, 0);
        return t;
    }
}
