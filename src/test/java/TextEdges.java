/** Sentences about the tape, texts, their faults and the cells of shapes: promises 1 to 7. */
final class TextEdges {
    private static final int NONE = OldNeighbours.NONE;
    private static final int CANT = NONE - 1;
    private static final int LEAST = Integer.MIN_VALUE;
    private static final int GREATEST = Integer.MAX_VALUE;
    private static final int BLANKS = 0x20202020;

    private static final String QUOTIENTS = "Quotients go downwards (to the lesser one).";
    private static final String SHAPES = "SHAPES 0 .. 5 are TEXTS (empty at first, without cells), of cells x, y 0 .. 7 each"
            + " (y 0 lies below), 24 at most, numbered by y, then x.";
    private static final String TOUCH = "Cells TOUCH, if they differ by one in x or in y alone.";
    private static final String RESTS = "A cell RESTS on that below it, if that is of the SHAPE.";
    private static final String SHAPE = "A SHAPE = {(cell N N | row N N N | pile N N N | hole N N) ;}: x, y, and how many, to the"
            + " right (row), upwards (pile); those cells are of it (again, too), a hole's is not (from there on).";
    private static final String RULE = "RULES 0 .. 2 (texts 6 .. 8) are TEXTS (empty at first) = {(same | shift N | back | snake |"
            + " pairs | mend | mix) [when B] ;}.";
    private static final String TOKENS = "TOKENS: letters as many as stand together are KEYWORDS (those told for such a TEXT) or"
            + " none; digits as many as stand together NUMBERS of 1 to 4 digits or none; ; + - * / ( ) < = > .";
    private static final String BLANK = "Blanks (32, 10) between.";
    private static final String INTS = "Ints, which wrap; / goes towards 0.";
    private static final String FAULT_1 = "FAULTS, the first by its place, at one place the least: 1 what can't stand there (the"
            + " end: the text's length).";
    private static final String FAULT_2 = "2 (at the NUMBER) a part by 0, an x or y above 7, how many that is 0 or goes beyond 7.";
    private static final String FAULT_3 = "3 (at its KEYWORD) the 17th line of a RULE, the 33rd of a SHAPE, a line by whose numbers,"
            + " when they are told, there are more than 24 cells; (at it) the 9th ( or not that is open.";
    private static final String NEW = "No shapes, no walls.";
    private static final String FEED = "Twenty bytes come behind the TAPE, of each number the highest first: how many it has.";
    private static final String FEED_NONE = "NONE, and nothing comes, if there would be more than 400.";
    private static final String END = "The TAPE has its first n bytes alone: true; false, changing nothing, if it has not so many,"
            + " or n is below 0.";
    private static final String TEXT = "The TAPE, empty then, is SHAPE k (0 .. 5: how many cells) or RULE k - 6 (6 .. 8: how many"
            + " lines).";
    private static final String TEXT_NONE = "NONE: no such one (fault() tells 0), or a FAULT (it stays as it was).";
    private static final String FAULT = "Of the latest text(): what 0 the FAULT (0 without one), 1 its place (NONE).";
    private static final String FAULT_NONE = "NONE for another what.";
    private static final String CELL = "Of cell i of a SHAPE what 0 x, 1 y, 2 with how many cells it TOUCHES, 3 the cell on which it"
            + " RESTS (NONE).";
    private static final String CELL_NONE = "NONE - 1 if there is none such, or another what.";

    private static final String ROWS_24 = "row 0 0 8;row 0 1 8;row 0 2 8;";

    private TextEdges() {
    }

    // The terms of texts.

    private static void quotientsGoDownwards() {
        for (String so : new String[] {"7/2=3", "1/2=0", "9999/10=999", "8/4=2", "8/9999=0"}) {
            holds(Edge.of(Edge.TERMS, QUOTIENTS), so, true);
        }
    }

    private static void shapesAreEmptyAtFirst() {
        Talk t = Edge.of(Edge.TERMS, SHAPES);
        for (int k = 0; k < 6; k++) {
            t.due("look " + (10 + k), 0, t.x.look(10 + k));
            t.due("cell 0 of " + k, CANT, t.x.cell(k, 0, 0));
        }
    }

    private static void cellsOfTheCorners() {
        Talk t = Edge.of(Edge.TERMS, SHAPES);
        t.told(0, "cell 7 7;cell 0 7;cell 7 0;cell 0 0;", 4);
        cellsAre(t, 0, 0, 0, 7, 0, 0, 7, 7, 7);
        t.faulty(0, "cell 8 7;", 2, 5);
        t.faulty(0, "cell 7 8;", 2, 7);
    }

    private static void twentyFourCellsAtMost() {
        Talk t = Edge.of(Edge.TERMS, SHAPES);
        t.told(0, "row 0 0 8;row 0 1 8;row 0 2 7;", 23);
        t.told(0, ROWS_24, 24);
        t.due("cell 23: x", 7, t.x.cell(0, 23, 0));
        t.due("cell 23: y", 2, t.x.cell(0, 23, 1));
        t.faulty(0, ROWS_24 + "cell 0 3;", 3, 30);
    }

    private static void numberedByYThenX() {
        Talk t = Edge.of(Edge.TERMS, SHAPES);
        t.told(0, "cell 1 1;cell 0 2;cell 6 0;cell 0 1;cell 2 0;", 5);
        cellsAre(t, 0, 2, 0, 6, 0, 0, 1, 1, 1, 0, 2);
    }

    private static void slantingCellsDoNotTouch() {
        Talk t = Edge.of(Edge.TERMS, TOUCH);
        t.told(0, "cell 3 3;cell 2 2;cell 4 2;cell 2 4;cell 4 4;", 5);
        touching(t, 0, 0, 0, 0, 0, 0);
    }

    private static void cellsTwoAwayDoNotTouch() {
        Talk t = Edge.of(Edge.TERMS, TOUCH);
        t.told(0, "cell 3 3;cell 1 3;cell 5 3;cell 3 1;cell 3 5;", 5);
        touching(t, 0, 0, 0, 0, 0, 0);
    }

    private static void theEndOfARowDoesNotTouchTheNextOne() {
        Talk t = Edge.of(Edge.TERMS, TOUCH);
        t.told(0, "cell 7 0;cell 0 1;cell 0 0;cell 7 7;cell 0 7;", 5);
        touching(t, 0, 1, 0, 1, 0, 0);
    }

    private static void fourTouchOne() {
        Talk t = Edge.of(Edge.TERMS, TOUCH);
        t.told(0, "row 0 0 3;row 0 1 3;row 0 2 3;", 9);
        touching(t, 0, 2, 3, 2, 3, 4, 3, 2, 3, 2);
    }

    private static void cellsOfTheLowestRowRestOnNone() {
        Talk t = Edge.of(Edge.TERMS, RESTS);
        t.told(0, "row 0 0 8;", 8);
        for (int i = 0; i < 8; i++) {
            t.due("cell " + i, NONE, t.x.cell(0, i, 3));
        }
    }

    private static void aCellRestsOnlyOnOneOfTheShape() {
        Talk t = Edge.of(Edge.TERMS, RESTS);
        t.told(0, "row 0 0 2;row 0 1 3;cell 2 3;cell 7 6;cell 7 7;hole 1 0;", 7);
        int[] below = {NONE, 0, NONE, NONE, NONE, NONE, 5};
        for (int i = 0; i < below.length; i++) {
            t.due("cell " + i, below[i], t.x.cell(0, i, 3));
        }
    }

    private static void anEmptyShape() {
        Talk t = Edge.of(Edge.TERMS, SHAPE);
        t.told(0, "", 0);
        t.told(0, "row 0 0 3;", 3);
        t.told(0, "", 0);
    }

    private static void rowsGoToTheRight() {
        Talk t = Edge.of(Edge.TERMS, SHAPE);
        t.told(0, "row 5 4 3;", 3);
        cellsAre(t, 0, 5, 4, 6, 4, 7, 4);
        t.told(0, "row 7 4 1;", 1);
        cellsAre(t, 0, 7, 4);
        t.told(0, "row 0 7 8;", 8);
    }

    private static void pilesGoUpwards() {
        Talk t = Edge.of(Edge.TERMS, SHAPE);
        t.told(0, "pile 4 5 3;", 3);
        cellsAre(t, 0, 4, 5, 4, 6, 4, 7);
        t.told(0, "pile 4 7 1;", 1);
        cellsAre(t, 0, 4, 7);
        t.told(0, "pile 7 0 8;", 8);
    }

    private static void cellsToldAgainCountOnce() {
        Talk t = Edge.of(Edge.TERMS, SHAPE);
        t.told(0, "cell 1 1;cell 1 1;row 0 1 3;pile 1 0 3;", 5);
        t.told(0, ROWS_24 + "row 0 0 8;pile 7 0 3;", 24);
    }

    private static void aHoleCountsFromThereOn() {
        Talk t = Edge.of(Edge.TERMS, SHAPE);
        t.told(0, "row 0 0 3;hole 1 0;", 2);
        cellsAre(t, 0, 0, 0, 2, 0);
        t.told(0, "hole 1 0;row 0 0 3;", 3);
        t.told(0, "row 0 0 3;hole 1 0;cell 1 0;", 3);
        t.told(0, ROWS_24 + "hole 7 2;cell 7 3;", 24);
    }

    private static void aHoleOfWhatIsNot() {
        Talk t = Edge.of(Edge.TERMS, SHAPE);
        t.told(0, "hole 7 7;", 0);
        t.told(0, "hole 0 0;cell 3 3;hole 3 4;hole 3 3;hole 3 3;", 0);
    }

    private static void linesOfAShapeAreWhole() {
        Talk t = Edge.of(Edge.TERMS, SHAPE);
        t.faulty(0, "cell 1;", 1, 6);
        t.faulty(0, "cell 1 1 1;", 1, 9);
        t.faulty(0, "hole 1 1 1;", 1, 9);
        t.faulty(0, "row 1 1;", 1, 7);
        t.faulty(0, "row 1 1 1 1;", 1, 10);
        t.faulty(0, "pile 1 1;", 1, 8);
        t.faulty(0, "cell 1 1 cell 2 2;", 1, 9);
        t.faulty(0, "cell 1 1;;", 1, 9);
        t.faulty(0, "cell year 1;", 1, 5);
    }

    private static void rulesAreEmptyAtFirst() {
        for (int rule = 0; rule < 3; rule++) {
            Talk t = Edge.of(Edge.TERMS, RULE);
            t.told(0, "row 0 0 3;", 3);
            t.bricks(0, 0, 5, 6, 7);
            t.due("years", 1, t.x.years(rule, 0, 1));
            t.stands("as same", 0, 5, 6, 7);
        }
    }

    private static void theThreeRules() {
        Talk t = Edge.of(Edge.TERMS, RULE);
        t.told(0, "row 0 0 3;", 3);
        t.told(6, "back;", 1);
        t.told(7, "shift 1;", 1);
        t.told(8, "shift 2;", 1);
        t.bricks(0, 0, 5, 6, 7);
        t.x.years(0, 0, 1);
        t.stands("rule 0", 0, 7, 6, 5);
        t.x.years(1, 0, 1);
        t.stands("rule 1", 0, 5, 7, 6);
        t.x.years(2, 0, 1);
        t.stands("rule 2", 0, 7, 6, 5);
    }

    private static void anEmptyRuleAgain() {
        Talk t = Edge.of(Edge.TERMS, RULE);
        t.told(0, "row 0 0 3;", 3);
        t.told(6, "back;", 1);
        t.told(6, "", 0);
        t.bricks(0, 0, 5, 6, 7);
        t.x.years(0, 0, 1);
        t.stands("as same", 0, 5, 6, 7);
    }

    private static void allWays() {
        Talk t = Edge.of(Edge.TERMS, RULE);
        t.told(6, "same;shift 0;back;snake;pairs;mend;mix;", 7);
        t.told(6, "same when 1=1;shift 9999 when 1=1;back when 1=1;snake when 1=1;pairs when 1=1;mend when 1=1;mix when 1=1;", 7);
        t.faulty(6, "shift when 1=1;", 1, 6);
        t.faulty(6, "shift -1;", 1, 6);
        t.faulty(6, "shift year;", 1, 6);
        t.faulty(6, "shift;", 1, 5);
        for (String way : new String[] {"same", "back", "snake", "pairs", "mend", "mix"}) {
            t.faulty(6, way + " 1;", 1, way.length() + 1);
        }
        t.faulty(6, "when 1=1;", 1, 0);
        t.faulty(6, "same when 1=1 when 1=1;", 1, 14);
        t.faulty(6, "same when;", 1, 9);
    }

    private static void orJoinsAnds() {
        String sentence = "B = A {or A}.";
        holds(Edge.of(Edge.TERMS, sentence), "1=2 or 1=2 or 1=1", true);
        holds(Edge.of(Edge.TERMS, sentence), "1=1 or 1=2 and 1=2", true);
        holds(Edge.of(Edge.TERMS, sentence), "1=2 or 1=2 or 1=2", false);
        Talk t = Edge.of(Edge.TERMS, sentence);
        t.faulty(6, "same when 1=1 or;", 1, 16);
        t.faulty(6, "same when or 1=1;", 1, 10);
        t.faulty(6, "same when 1=1 or or 1=1;", 1, 17);
        t.faulty(6, "same when 1=1 1=1;", 1, 14);
    }

    private static void andJoinsConditions() {
        String sentence = "A = C {and C}.";
        holds(Edge.of(Edge.TERMS, sentence), "1=1 and 2=2 and 3=3", true);
        holds(Edge.of(Edge.TERMS, sentence), "1=1 and 2=2 and 3=4", false);
        holds(Edge.of(Edge.TERMS, sentence), "1=2 and 2=2 and 3=3", false);
        Talk t = Edge.of(Edge.TERMS, sentence);
        t.faulty(6, "same when 1=1 and;", 1, 17);
        t.faulty(6, "same when and 1=1;", 1, 10);
        t.faulty(6, "same when 1=1 and or 1=1;", 1, 18);
    }

    private static void comparisonsNotsAndParentheses() {
        String sentence = "C = E (< | = | >) E | not C | ( B ).";
        String[] so = {"1<2", "2>1", "2=2", "not 2<2", "not 2>2", "not 1=2", "not not 1=1", "(1=1)", "not(1=2 or 1=2)", "(1=2 or 1=1)and 1=1"};
        for (String condition : so) {
            holds(Edge.of(Edge.TERMS, sentence), condition, true);
        }
        String[] not = {"not 1=2 and 1=2", "not 1=1", "not not not 2>1", "not(1<2)", "2<2", "2<1", "2>2", "1>2", "1=2", "(1=2)"};
        for (String condition : not) {
            holds(Edge.of(Edge.TERMS, sentence), condition, false);
        }
        holds(Edge.of(Edge.TERMS, sentence), "1<2 and 2>1 and 1=1 and not 1=2 and not not 1<2", true);
        Talk t = Edge.of(Edge.TERMS, sentence);
        t.faulty(6, "same when 1;", 1, 11);
        t.faulty(6, "same when 1=;", 1, 12);
        t.faulty(6, "same when =1;", 1, 10);
        t.faulty(6, "same when 1==1;", 1, 12);
        t.faulty(6, "same when 1<=1;", 1, 12);
        t.faulty(6, "same when 1=1=1;", 1, 13);
        t.faulty(6, "same when not;", 1, 13);
        t.faulty(6, "same when ();", 1, 11);
        t.faulty(6, "same when (1=1;", 1, 14);
        t.faulty(6, "same when 1=1);", 1, 13);
        t.faulty(6, "same when (1)=1;", 1, 12);
        t.faulty(6, "same when 1=not 1;", 1, 12);
    }

    private static void sumsGoFromTheLeft() {
        String sentence = "E = T {(+ | -) T}.";
        for (String so : new String[] {"9-5-3=1", "9-5+3=7", "1+2*3=7", "7-6/2=4", "1+1+1+1=4"}) {
            holds(Edge.of(Edge.TERMS, sentence), so, true);
        }
        Talk t = Edge.of(Edge.TERMS, sentence);
        t.faulty(6, "same when 1+=1;", 1, 12);
        t.faulty(6, "same when -1=1;", 1, 10);
        t.faulty(6, "same when 1+-1=1;", 1, 12);
        t.faulty(6, "same when 1=1+;", 1, 14);
    }

    private static void productsGoFromTheLeft() {
        String sentence = "T = U {* U | / NUMBER}.";
        for (String so : new String[] {"7/2*2=6", "2*7/2=7", "9/2/2=2", "2*3*4=24", "2*3/4*5/2=2"}) {
            holds(Edge.of(Edge.TERMS, sentence), so, true);
        }
        Talk t = Edge.of(Edge.TERMS, sentence);
        t.faulty(6, "same when 4/year=1;", 1, 12);
        t.faulty(6, "same when 4/;", 1, 12);
        t.faulty(6, "same when 4*;", 1, 12);
        t.faulty(6, "same when 4*(1)=1;", 1, 12);
        t.faulty(6, "same when 4 4=1;", 1, 12);
    }

    private static void unitsAreNumbersAndFiveWords() {
        String sentence = "U = NUMBER | year | cells | bad | kept | met.";
        holds(Edge.of(Edge.TERMS, sentence), "year+cells*10+bad*100+kept*1000+met*10=2030", true);
        Talk t = Edge.of(Edge.TERMS, sentence);
        for (String no : new String[] {"same", "cell", "row", "years", "when", "or", ";", "*", ")"}) {
            t.faulty(6, "same when " + no + "=1;", 1, 10);
        }
    }

    private static void lettersStandTogether() {
        Talk t = Edge.of(Edge.TERMS, TOKENS);
        t.faulty(0, "cellcell 0 0;", 1, 0);
        t.faulty(0, "rowpile 0 0 1;", 1, 0);
        t.faulty(0, "cel l 0 0;", 1, 0);
        t.faulty(6, "samewhen 1=1;", 1, 0);
        t.faulty(6, "same when not1=1 andor 2=2;", 1, 17);
        t.told(0, "cell0 0;", 1);
        t.told(6, "same when not1=1and 2=2;", 1);
        for (String word : new String[] {"cella", "cellz", "cellA", "cellZ", "acell", "Cell", "bell", "celk", "cel", "rows", "ow"}) {
            t.faulty(0, word + " 0 0 1;", 1, 0);
        }
        for (String word : new String[] {"lame", "samd", "shiftt", "pair", "pairsx", "nix", "mixsame"}) {
            t.faulty(6, word + ";", 1, 0);
        }
    }

    /** What was cut off the tape stands there no more, also if it would go on with the last word. */
    private static void lettersAndDigitsEndWithTheText() {
        Talk t = Edge.of(Edge.TERMS, TOKENS);
        t.feed("rowx");
        t.x.end(3);
        t.due("a word", NONE, t.x.text(0));
        t.due("its fault", 1, t.x.fault(0));
        t.due("is behind it", 3, t.x.fault(1));
        t.feed("shift 12345");
        t.x.end(10);
        t.due("a number", NONE, t.x.text(6));
        t.due("its fault", 1, t.x.fault(0));
        t.due("is behind it", 10, t.x.fault(1));
    }

    private static void fourHundredTokens() {
        Talk t = Edge.of(Edge.TERMS, TOKENS);
        t.faulty(0, ";".repeat(400), 1, 0);
        t.faulty(6, "+".repeat(400), 1, 0);
        t.told(6, "mix when 1=" + "1+".repeat(193) + "1;", 1);
        t.faulty(6, "mix when 1=" + "1+".repeat(194) + "1", 1, 400);
    }

    private static void keywordsOfTheOtherTexts() {
        Talk t = Edge.of(Edge.TERMS, TOKENS);
        for (String no : new String[] {"same", "shift", "back", "snake", "pairs", "mend", "mix", "when", "cells", "year", "met"}) {
            t.faulty(0, no + " 0 0;", 1, 0);
        }
        for (String no : new String[] {"cell", "row", "pile", "hole", "when", "year", "not"}) {
            t.faulty(6, no + ";", 1, 0);
        }
    }

    private static void numbersHaveOneToFourDigits() {
        Talk t = Edge.of(Edge.TERMS, TOKENS);
        t.told(6, "shift 0;shift 12;shift 123;shift 9999;", 4);
        t.told(0, "cell 0007 0000;", 1);
        t.faulty(6, "shift 10000;", 1, 6);
        t.faulty(6, "shift 00000;", 1, 6);
        t.faulty(0, "cell 00007 0;", 1, 5);
        t.faulty(0, "cell 0 99999999;", 1, 7);
        t.faulty(0, "cell 00 0 0;", 1, 10);
    }

    private static void digitsStandTogether() {
        Talk t = Edge.of(Edge.TERMS, TOKENS);
        t.faulty(0, "cell 00;", 1, 7);
        t.faulty(0, "cell 12 0;", 2, 5);
        t.told(0, "cell 0 0\n;", 1);
    }

    private static void otherSigns() {
        Talk t = Edge.of(Edge.TERMS, TOKENS);
        for (int sign = 0; sign < 256; sign++) {
            boolean known = sign == 32 || sign == 10 || sign >= '0' && sign <= '9' || ";+-*/()<=>".indexOf(sign) >= 0;
            boolean letter = sign >= 'a' && sign <= 'z' || sign >= 'A' && sign <= 'Z';
            if (!known && !letter) {
                t.faulty(0, (char) sign + "cell 0 0;", 1, 0);
                t.faulty(0, "cell 0 0" + (char) sign + ";", 1, 8);
                t.faulty(6, "same" + (char) sign + ";", 1, 4);
            }
        }
    }

    private static void twoBlanksAndNoOthers() {
        Talk t = Edge.of(Edge.TERMS, BLANK);
        t.told(0, "  \n cell\n 0 \n\n0  ;\n \n", 1);
        t.told(6, " same\nwhen\n1\n=\n1 \n; ", 1);
        t.told(0, " ".repeat(400), 0);
        t.told(6, "\n".repeat(400), 0);
        for (int no : new int[] {0, 9, 11, 13, 31, 33, 160}) {
            t.faulty(0, "cell" + (char) no + "0 0;", 1, 4);
        }
    }

    private static void noBlanksAtAll() {
        Talk t = Edge.of(Edge.TERMS, BLANK);
        t.told(6, "same when year+1<2and(not1=2)or 3*4/5>1;same;", 2);
    }

    private static void intsWrap() {
        // 9999 * 9999 = 99980001; times 22 is 2199560022, less 2 to the 32: -2095407274.
        holds(Edge.of(Edge.TERMS, INTS), "9999*9999*22<0", true);
        holds(Edge.of(Edge.TERMS, INTS), "9999*9999*22+9999*9999*20+9999*9999>0", true);
        // 2048 * 2048 * 512 is 2 to the 31, the least int, and one less the greatest.
        holds(Edge.of(Edge.TERMS, INTS), "2048*2048*512<0", true);
        holds(Edge.of(Edge.TERMS, INTS), "2048*2048*512-1>0", true);
        holds(Edge.of(Edge.TERMS, INTS), "2048*2048*512+2048*2048*512=0", true);
        holds(Edge.of(Edge.TERMS, INTS), "2048*2048*1024=0", true);
    }

    private static void partsGoTowards0() {
        // The product is -2095407274.
        holds(Edge.of(Edge.TERMS, INTS), "9999*9999*22/1000=0-2095*1000-407", true);
        // -2147483648 / 9999 is -214769 and some: -21 * 9999 - 4790 = -214769.
        holds(Edge.of(Edge.TERMS, INTS), "2048*2048*512/9999=0-21*9999-4790", true);
        holds(Edge.of(Edge.TERMS, INTS), "2048*2048*512/1=2048*2048*512", true);
    }

    private static void theFirstFaultByItsPlace() {
        Talk t = Edge.of(Edge.TERMS, FAULT_1);
        t.faulty(0, "cell 9 x;", 2, 5);
        t.faulty(0, "cell x 9;", 1, 5);
        t.faulty(0, "cell 0 0;oops;cell 9 9;", 1, 9);
        t.faulty(6, "same when 1/0 1;", 2, 12);
        t.faulty(6, "same when 1 1/0;", 1, 12);
        // The line's fault stands at its keyword, ahead of the sign that is missing behind it.
        t.faulty(0, ROWS_24 + "cell 0 3 oops", 3, 30);
    }

    private static void atOnePlaceTheLeast() {
        Talk t = Edge.of(Edge.TERMS, FAULT_1);
        t.faulty(6, "same;".repeat(16) + "oops;", 1, 80);
        t.faulty(0, "cell 0 0;".repeat(32) + "oops;", 1, 288);
        t.faulty(0, "cell 99999 0;", 1, 5);
        t.faulty(6, "same when 1/00000=1;", 1, 12);
    }

    private static void theEndIsTheTextsLength() {
        Talk t = Edge.of(Edge.TERMS, FAULT_1);
        t.faulty(0, "cell 0 0", 1, 8);
        t.faulty(0, "cell 0 0 \n ", 1, 11);
        t.faulty(0, "row", 1, 3);
        t.faulty(0, "row 1", 1, 5);
        t.faulty(0, "row 1 1", 1, 7);
        t.faulty(0, "row 1 1 1", 1, 9);
        t.faulty(6, "same", 1, 4);
        t.faulty(6, "shift", 1, 5);
        t.faulty(6, "back;shift\n", 1, 11);
        t.faulty(6, "shift 1", 1, 7);
        t.faulty(6, "same when", 1, 9);
        t.faulty(6, "same when not", 1, 13);
        t.faulty(6, "same when year", 1, 14);
        t.faulty(6, "same when year/", 1, 15);
        t.faulty(6, "same when year/2*", 1, 17);
        t.faulty(6, "same when year+", 1, 15);
        t.faulty(6, "same when year<", 1, 15);
        t.faulty(6, "same when year<1", 1, 16);
        t.faulty(6, "same when year<1 and", 1, 20);
        t.faulty(6, "same when year<1 or", 1, 19);
        t.faulty(6, "same when (1=1", 1, 14);
        t.faulty(6, "same" + " ".repeat(396), 1, 400);
    }

    private static void aPartBy0() {
        Talk t = Edge.of(Edge.TERMS, FAULT_2);
        t.faulty(6, "same when year/0=1;", 2, 15);
        t.faulty(6, "same when year/0000=1;", 2, 15);
        t.faulty(6, "same when 1=year/2/0;", 2, 19);
        t.told(6, "same when year/1=0*1;", 1);
        t.told(6, "same when 0/1=0*0;", 1);
    }

    private static void anXOrYAbove7() {
        Talk t = Edge.of(Edge.TERMS, FAULT_2);
        for (String word : new String[] {"cell", "hole", "row", "pile"}) {
            int x = word.length() + 1;
            t.faulty(0, word + " 8 0 1;", 2, x);
            t.faulty(0, word + " 9999 0 1;", 2, x);
            t.faulty(0, word + " 0 8 1;", 2, x + 2);
            t.faulty(0, word + " 7 9999 1;", 2, x + 2);
        }
        t.told(0, "cell 7 7;row 7 7 1;pile 7 7 1;", 1);
    }

    private static void howManyIs0() {
        Talk t = Edge.of(Edge.TERMS, FAULT_2);
        t.faulty(0, "row 3 4 0;", 2, 8);
        t.faulty(0, "pile 3 4 0;", 2, 9);
        t.faulty(0, "row 3 4 0000;", 2, 8);
    }

    private static void howManyGoesBeyond7() {
        Talk t = Edge.of(Edge.TERMS, FAULT_2);
        t.told(0, "row 0 0 8;", 8);
        t.told(0, "row 5 7 3;", 3);
        t.told(0, "pile 7 5 3;", 3);
        t.faulty(0, "row 0 0 9;", 2, 8);
        t.faulty(0, "row 5 7 4;", 2, 8);
        t.faulty(0, "row 7 0 2;", 2, 8);
        t.faulty(0, "pile 0 0 9;", 2, 9);
        t.faulty(0, "pile 7 5 4;", 2, 9);
        t.faulty(0, "pile 0 7 2;", 2, 9);
        t.faulty(0, "row 0 0 9999;", 2, 8);
    }

    private static void theSeventeenthLineOfARule() {
        Talk t = Edge.of(Edge.TERMS, FAULT_3);
        t.told(6, "same;".repeat(16), 16);
        t.faulty(6, "same;".repeat(17), 3, 80);
        t.faulty(6, "same;".repeat(16) + " \nback when 1/0", 3, 82);
    }

    private static void theThirtyThirdLineOfAShape() {
        Talk t = Edge.of(Edge.TERMS, FAULT_3);
        t.told(0, "hole 0 0;".repeat(31) + "cell 1 1;", 1);
        t.faulty(0, "hole 0 0;".repeat(33), 3, 288);
        t.faulty(0, "cell 0 0;".repeat(32) + "\ncell 9", 3, 289);
    }

    private static void aLineWithTooManyCells() {
        Talk t = Edge.of(Edge.TERMS, FAULT_3);
        t.faulty(0, ROWS_24 + "cell 0 3;", 3, 30);
        t.faulty(0, ROWS_24 + " row 0 2 8; row 7 3 1;", 3, 42);
        t.faulty(0, "row 0 0 8;row 0 1 8;row 0 2 7;row 0 3 2;hole 0 0;", 3, 30);
        t.faulty(0, "pile 0 0 8;pile 1 0 8;pile 2 0 8;pile 3 0 1;", 3, 33);
        // Only when its numbers are told, and right.
        t.faulty(0, ROWS_24 + "cell 0;", 1, 36);
        t.faulty(0, ROWS_24 + "row 0 3;", 1, 37);
        t.faulty(0, ROWS_24 + "row 0 3 9;", 2, 38);
    }

    private static void theNinthThatIsOpen() {
        Talk t = Edge.of(Edge.TERMS, FAULT_3);
        t.told(6, "same when " + "(".repeat(8) + "1=1" + ")".repeat(8) + ";", 1);
        t.faulty(6, "same when " + "(".repeat(9) + "1=1" + ")".repeat(9) + ";", 3, 18);
        t.told(6, "same when " + "not ".repeat(8) + "1=1;", 1);
        t.faulty(6, "same when " + "not ".repeat(9) + "1=1;", 3, 42);
        t.told(6, "same when not(not(not(not(1=1))));", 1);
        t.faulty(6, "same when not(not(not(not(not 1=1))));", 3, 26);
        t.faulty(6, "same when not(not(not(not((1=1)))));", 3, 26);
    }

    private static void whatIsClosedIsOpenNoMore() {
        Talk t = Edge.of(Edge.TERMS, FAULT_3);
        String eight = "(".repeat(8) + "1=1" + ")".repeat(8);
        t.told(6, "same when " + eight + " and " + eight + " or " + eight + ";same when " + eight + ";", 2);
        t.told(6, "same when (((((((not 1=1 and not 1=1 or not 1=1)))))));", 1);
        t.told(6, "same when not not not not 1=1 and not not not not not 1=1;", 1);
        t.faulty(6, "same when ((((((((1=1) and (1=1) and ((1=1)))))))));", 3, 38);
    }

    // Promise 1 and the tape.

    private static void aNewObjectHasNothing() {
        Talk t = Edge.of(1, NEW);
        for (int k = 0; k < 6; k++) {
            t.due("cells of shape " + k, 0, t.x.look(10 + k));
            t.due("cells of wall " + k, 0, t.x.look(20 + k));
            t.due("bricks of wall " + k, 0, t.x.look(30 + k));
            t.due("at " + k, CANT, t.x.at(k, 0));
            t.due("spares " + k, 0, t.x.spares(k));
        }
        t.due("image", false, t.x.image(false));
        t.due("the tape", false, t.x.end(1));
    }

    private static void objectsAreApart() {
        Talk t = Edge.of(1, NEW);
        t.told(0, "cell 0 0;", 1);
        t.bricks(0, 0, 3);
        t.x.image(true);
        Talk other = Edge.of(1, NEW);
        other.due("shape", 0, other.x.look(10));
        other.due("wall", 0, other.x.look(20));
        other.due("image", false, other.x.image(false));
    }

    private static void theHighestByteFirst() {
        Talk t = Edge.of(3, FEED);
        t.due("feed", 20, t.x.feed(0x63656c6c, 0x20352033, 0x3b63656c, 0x6c203620, 0x343b2020));
        t.due("text", 2, t.x.text(0));
        cellsAre(t, 0, 5, 3, 6, 4);
    }

    private static void bytesComeBehindTheTape() {
        Talk t = Edge.of(3, FEED);
        t.due("feed", 20, t.x.feed(0x63656c6c, 0x20352020, 0x20202020, 0x20202020, 0x20202020));
        t.due("feed", 40, t.x.feed(0x20202020, 0x20202020, 0x20202020, 0x20202020, 0x2020333b));
        t.due("text", 1, t.x.text(0));
        cellsAre(t, 0, 5, 3);
    }

    private static void bytesWithTheHighestBit() {
        Talk t = Edge.of(3, FEED);
        t.due("feed", 20, t.x.feed(LEAST, -1, GREATEST, 0x80808080, 0));
        for (int place = 0; place < 2; place++) {
            t.x.end(0);
            t.x.feed(place == 0 ? 0xa0202020 : 0x20a02020, BLANKS, BLANKS, BLANKS, BLANKS);
            t.due("text", NONE, t.x.text(0));
            t.due("fault", 1, t.x.fault(0));
            t.due("place", place, t.x.fault(1));
        }
    }

    private static void theTapeIsFullAt400() {
        Talk t = Edge.of(3, FEED_NONE);
        for (int i = 1; i <= 20; i++) {
            t.due("feed " + i, 20 * i, t.x.feed(BLANKS, BLANKS, BLANKS, BLANKS, BLANKS));
        }
        t.refused("feed 21", NONE, () -> t.x.feed(1, 2, 3, 4, 5));
        t.due("it has 400", true, t.x.end(400));
        t.due("all blanks", 0, t.x.text(0));
    }

    private static void nothingComesBeyond380() {
        Talk t = Edge.of(3, FEED_NONE);
        for (int i = 1; i <= 20; i++) {
            t.x.feed(BLANKS, BLANKS, BLANKS, BLANKS, BLANKS);
        }
        t.x.end(381);
        t.refused("feed at 381", NONE, () -> t.x.feed(1, 2, 3, 4, 5));
        t.x.end(380);
        t.due("feed at 380", 400, t.x.feed(0x63656c6c, 0x20302030, 0x3b202020, BLANKS, BLANKS));
        t.due("text", 1, t.x.text(0));
        t.due("feed of an empty tape", 20, t.x.feed(BLANKS, BLANKS, BLANKS, BLANKS, BLANKS));
    }

    private static void theFirstBytesAlone() {
        Talk t = Edge.of(4, END);
        t.x.feed(0x63656c6c, 0x20302030, 0x3b63656c, 0x6c203120, 0x303b2323);
        t.due("end 20", true, t.x.end(20));
        t.due("end 18", true, t.x.end(18));
        t.due("end 9", true, t.x.end(9));
        t.due("text", 1, t.x.text(0));
    }

    private static void cutBytesDoNotComeBack() {
        Talk t = Edge.of(4, END);
        t.x.feed(0x63656c6c, 0x20302030, 0x3b202020, BLANKS, BLANKS);
        t.due("end 0", true, t.x.end(0));
        t.due("end 1", false, t.x.end(1));
        t.due("feed", 20, t.x.feed(BLANKS, BLANKS, BLANKS, BLANKS, BLANKS));
        t.due("text", 0, t.x.text(0));
    }

    private static void notSoManyBytes() {
        Talk t = Edge.full(4, END);
        for (int n : new int[] {10, 20, 21, 400, 401, GREATEST}) {
            t.refused("end " + n, () -> t.x.end(n));
        }
        t.due("text", 1, t.x.text(3));
        t.refused("end 1 of an empty tape", () -> t.x.end(1));
        t.due("end 0 of an empty tape", true, t.x.end(0));
    }

    private static void bytesBelow0() {
        Talk t = Edge.full(4, END);
        t.refused("end -1", () -> t.x.end(-1));
        t.refused("end least", () -> t.x.end(LEAST));
        t.due("text", 1, t.x.text(3));
    }

    // Promises 5 and 6: texts and faults.

    private static void theTapeIsEmptyThen() {
        Talk t = Edge.of(5, TEXT);
        for (int k = 0; k < 9; k++) {
            t.told(k, k < 6 ? "cell 1 2;" : "back;", 1);
            t.due("the tape after text " + k, false, t.x.end(1));
        }
        t.due("the same shape is empty then", 0, t.x.text(0));
        t.due("look", 0, t.x.look(10));
    }

    private static void theTapeIsEmptyAfterAFault() {
        Talk t = Edge.of(5, TEXT);
        for (int k = 0; k < 9; k++) {
            t.faulty(k, "oops", 1, 0);
            t.due("the tape after text " + k, false, t.x.end(1));
        }
    }

    private static void sixShapesAndThreeRules() {
        Talk t = Edge.of(5, TEXT);
        for (int k = 0; k < 6; k++) {
            t.told(k, "row 0 " + k + " " + (k + 1) + ";", k + 1);
        }
        for (int k = 6; k < 9; k++) {
            t.told(k, "back;".repeat(k), k);
        }
        for (int k = 0; k < 6; k++) {
            t.due("cells of " + k, k + 1, t.x.look(10 + k));
            t.due("y of " + k, k, t.x.cell(k, 0, 1));
        }
    }

    private static void noSuchText() {
        Talk t = Edge.full(5, TEXT_NONE);
        for (int k : new int[] {-1, 9, 10, LEAST, GREATEST}) {
            t.feed("cell 0 0;");
            t.due("text " + k, NONE, t.x.text(k));
            t.due("fault 0", 0, t.x.fault(0));
            t.due("fault 1", NONE, t.x.fault(1));
            t.x.text(3);
            t.faulty(3, "cell 9 9;", 2, 5);
        }
    }

    private static void aFaultyShapeStays() {
        Talk t = Edge.full(5, TEXT_NONE);
        for (String text : new String[] {"cell 0 0;x", "cell 9 0;", ROWS_24 + "cell 0 3;", "cell 0 0;".repeat(33)}) {
            for (int k = 0; k < 6; k++) {
                t.due("tell", NONE, t.tell(k, text));
            }
            t.due("shape 0", 6, t.x.look(10));
            t.due("shape 1", 5, t.x.look(11));
            t.due("shape 2", 8, t.x.look(12));
            t.due("shape 3", 0, t.x.look(13));
            t.due("shape 4", 24, t.x.look(14));
            t.due("shape 5", 1, t.x.look(15));
            cellsAre(t, 1, 0, 0, 2, 3, 3, 3, 4, 3, 5, 3);
        }
    }

    private static void aFaultyRuleStays() {
        for (String text : new String[] {"same;x", "same when 1/0=1;", "same;".repeat(17), "same when " + "not ".repeat(9) + "1=1;"}) {
            Talk t = Edge.of(5, TEXT_NONE);
            t.told(0, "row 0 0 3;", 3);
            t.told(6, "same when 1=2;back;", 2);
            t.due("tell", NONE, t.tell(6, text));
            t.bricks(0, 0, 5, 6, 7);
            t.x.years(0, 0, 1);
            t.stands("back", 0, 7, 6, 5);
        }
    }

    private static void manyTextsOneAfterAnother() {
        Talk t = Edge.of(5, TEXT);
        String sum = "1+".repeat(150) + "1";
        for (int i = 0; i < 10; i++) {
            t.told(6 + i % 3, "same when 1=2;back when " + sum + "=151;", 2);
        }
        t.told(0, "row 0 0 3;", 3);
        t.bricks(0, 0, 5, 6, 7);
        t.x.years(0, 0, 1);
        t.stands("the latest", 0, 7, 6, 5);
    }

    private static void noFaultAtFirst() {
        Talk t = Edge.of(6, FAULT);
        t.due("fault 0", 0, t.x.fault(0));
        t.due("fault 1", NONE, t.x.fault(1));
    }

    private static void theFaultOfTheLatestText() {
        Talk t = Edge.of(6, FAULT);
        t.faulty(0, "cell 0 8;", 2, 7);
        t.faulty(6, "same", 1, 4);
        t.faulty(6, "same;".repeat(17), 3, 80);
        t.told(0, "cell 0 0;", 1);
        t.faulty(0, "oops", 1, 0);
        t.told(6, "", 0);
        t.faulty(0, "oops", 1, 0);
        t.x.text(9);
        t.due("fault 0 of no text", 0, t.x.fault(0));
        t.due("fault 1 of no text", NONE, t.x.fault(1));
    }

    private static void theFaultStaysThroughOtherCalls() {
        Talk t = Edge.of(6, FAULT);
        t.faulty(0, "cell 0 8;", 2, 7);
        t.x.feed(1, 2, 3, 4, 5);
        t.x.end(0);
        t.x.wall(0, 9);
        t.x.image(true);
        t.due("fault 0", 2, t.x.fault(0));
        t.due("fault 1", 7, t.x.fault(1));
    }

    private static void anotherWhatOfFault() {
        Talk t = Edge.full(6, FAULT_NONE);
        for (int what : new int[] {-1, 2, 3, LEAST, GREATEST}) {
            t.refused("fault " + what, NONE, () -> t.x.fault(what));
        }
    }

    // Promise 7: cells.

    private static void theCellOnWhichItRests() {
        Talk t = Edge.of(7, CELL);
        t.told(5, "pile 7 5 3;cell 6 7;cell 6 4;", 5);
        int[][] cells = {{6, 4, 0, NONE}, {7, 5, 1, NONE}, {7, 6, 2, 1}, {6, 7, 1, NONE}, {7, 7, 2, 2}};
        for (int i = 0; i < cells.length; i++) {
            for (int what = 0; what < 4; what++) {
                t.due("cell " + i + " " + what, cells[i][what], t.x.cell(5, i, what));
            }
        }
    }

    private static void noSuchCell() {
        Talk t = Edge.full(7, CELL_NONE);
        for (int what = 0; what < 4; what++) {
            int asked = what;
            for (int i : new int[] {-1, 6, 24, LEAST, GREATEST}) {
                t.refused("cell 0 " + i + " " + what, CANT, () -> t.x.cell(0, i, asked));
            }
            t.refused("cell 24 of 24", CANT, () -> t.x.cell(4, 24, asked));
            t.refused("cell 0 of none", CANT, () -> t.x.cell(3, 0, asked));
        }
    }

    private static void noSuchShape() {
        Talk t = Edge.full(7, CELL_NONE);
        for (int shape : new int[] {-1, 6, LEAST, GREATEST}) {
            t.refused("cell of shape " + shape, CANT, () -> t.x.cell(shape, 0, 0));
        }
    }

    private static void anotherWhatOfCell() {
        Talk t = Edge.full(7, CELL_NONE);
        for (int what : new int[] {-1, 4, 10, LEAST, GREATEST}) {
            t.refused("cell " + what, CANT, () -> t.x.cell(0, 0, what));
        }
    }

    /** Pairs of x and y by cells. */
    private static void cellsAre(Talk t, int shape, int... places) {
        t.due("cells of shape " + shape, places.length / 2, t.x.look(10 + shape));
        for (int i = 0; i < places.length / 2; i++) {
            t.due("x of cell " + i, places[2 * i], t.x.cell(shape, i, 0));
            t.due("y of cell " + i, places[2 * i + 1], t.x.cell(shape, i, 1));
        }
    }

    private static void touching(Talk t, int shape, int... many) {
        for (int i = 0; i < many.length; i++) {
            t.due("cell " + i + " touches", many[i], t.x.cell(shape, i, 2));
        }
    }

    /** In year 0, a row of three put up again in itself: cells 3, kept 2, all else 0. */
    private static void holds(Talk t, String condition, boolean so) {
        t.told(0, "row 0 0 3;", 3);
        t.told(6, "back when " + condition + ";", 1);
        t.bricks(0, 0, 0, 1, 2);
        t.x.years(0, 0, 1);
        t.due(condition, so ? 2 : 0, t.x.at(0, 0));
    }
}
