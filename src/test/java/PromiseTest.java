import java.util.Arrays;

/** For each promise of the document: ordinary inputs, its edges and wrong inputs. */
public final class PromiseTest {
    private static final int NONE = OldNeighbours.NONE;
    private static final int CANT = NONE - 1;
    private static final int LEAST = Integer.MIN_VALUE;
    private static final int GREATEST = Integer.MAX_VALUE;

    /** Shape 0 of most tests, cells 0 1 2 below 3 4 5. */
    private static final String TWO_ROWS = "row 0 0 3;row 0 1 3;";

    private PromiseTest() {
    }

    public static void main(String[] args) {
        promise1();
        promise2();
        promise3();
        promise4();
        promise5();
        promise5shapes();
        promise5rules();
        promise6();
        promise7();
        promise8();
        promise9();
        promise10();
        promise11();
        promise12();
        promise13();
        promise14();
        promise15();
        promise16();
        promise16pairs();
        promise16mend();
        promise16mix();
        promise17();
        promise17values();
        promise18();
        promise19();
        promise20();
        promise21();
        promise22();
        promise23();
        promise24();
        promise25();
        promise26();
        promise27();
        promise28();
        promise29();
        promise30();
        System.exit(Talk.allRight("PromiseTest") ? 0 : 1);
    }

    private static void promise1() {
        Talk t = new Talk("promise 1");
        t.due("NONE", -1, OldNeighbours.NONE);
        for (int k = 0; k < 6; k++) {
            t.due("look " + (10 + k), 0, t.x.look(10 + k));
            t.due("look " + (20 + k), 0, t.x.look(20 + k));
            t.due("look " + (30 + k), 0, t.x.look(30 + k));
            t.due("at " + k, CANT, t.x.at(k, 0));
            t.due("cell " + k, CANT, t.x.cell(k, 0, 0));
        }
        for (int what = 0; what < 3; what++) {
            t.due("look " + what, 0, t.x.look(what));
        }
        t.due("met 0", 0, t.x.met(0));
        t.due("met 1", 0, t.x.met(1));
        t.due("met 2", 0, t.x.met(2));
        t.due("met 3", NONE, t.x.met(3));
        t.due("met 4", 0, t.x.met(4));
        t.due("met 5", 0, t.x.met(5));
        t.due("good 0", 0, t.x.good(0, 1, 0));
        t.due("good 3", 1, t.x.good(0, 1, 3));
        t.due("image", false, t.x.image(false));
        t.due("fault 0", 0, t.x.fault(0));
        t.due("fault 1", NONE, t.x.fault(1));
        t.due("end 0", true, t.x.end(0));
        t.due("end 1", false, t.x.end(1));
    }

    private static void promise2() {
        Talk t = new Talk("promise 2");
        t.due("state", 0, t.x.state(LEAST));
        t.due("state", LEAST, t.x.state(GREATEST));
        t.due("state", GREATEST, t.x.state(-1));
        t.due("look 2", -1, t.x.look(2));
    }

    private static void promise3() {
        Talk t = new Talk("promise 3");
        for (int i = 1; i <= 20; i++) {
            t.due("feed " + i, 20 * i, t.x.feed(0x20202020, 0x20202020, 0x20202020, 0x20202020, 0x20202020));
        }
        t.due("feed 21", NONE, t.x.feed(1, 2, 3, 4, 5));
        t.due("end 401", false, t.x.end(401));
        t.due("end 381", true, t.x.end(381));
        t.due("feed beyond 400", NONE, t.x.feed(1, 2, 3, 4, 5));
        t.due("end 382", false, t.x.end(382));
        t.due("end 380", true, t.x.end(380));
        t.due("feed to 400", 400, t.x.feed(0x63656c6c, 0x20372036, 0x3b202020, 0x20202020, 0x20202020));
        t.due("text", 1, t.x.text(0));
        t.due("highest byte first: x", 7, t.x.cell(0, 0, 0));
        t.due("highest byte first: y", 6, t.x.cell(0, 0, 1));
        // A byte above 127 is one sign, not a number below 0.
        t.x.feed(0xff202020, 0, 0, 0, 0);
        t.due("text of 255", NONE, t.x.text(0));
        t.due("fault of 255", 1, t.x.fault(0));
        t.due("place of 255", 0, t.x.fault(1));
    }

    private static void promise4() {
        Talk t = new Talk("promise 4");
        t.x.feed(0x63656c6c, 0x20302030, 0x3b63656c, 0x6c203120, 0x303b2323);
        t.due("end -1", false, t.x.end(-1));
        t.due("end least", false, t.x.end(LEAST));
        t.due("end 21", false, t.x.end(21));
        t.due("end 20", true, t.x.end(20));
        t.due("end 18", true, t.x.end(18));
        t.due("end 19", false, t.x.end(19));
        t.due("feed", 38, t.x.feed(0x63656c6c, 0x20322030, 0x3b202020, 0x20202020, 0x20202020));
        t.due("text", 3, t.x.text(0));
        t.due("end 1 of an empty tape", false, t.x.end(1));
        t.due("end 0 of an empty tape", true, t.x.end(0));
    }

    private static void promise5() {
        Talk t = new Talk("promise 5");
        t.told(0, "cell 1 2;", 1);
        t.due("the tape is empty then", false, t.x.end(1));
        t.faulty(0, "cell 1 9;", 2, 7);
        t.due("the tape is empty after a fault", false, t.x.end(1));
        t.due("the shape stays as it was", 1, t.x.look(10));
        t.faulty(6, "same when;", 1, 9);
        t.feed("cell 0 0;");
        for (int k : new int[] {-1, 9, LEAST, GREATEST}) {
            t.due("text " + k, NONE, t.x.text(k));
            t.due("fault 0 of text " + k, 0, t.x.fault(0));
            t.due("fault 1 of text " + k, NONE, t.x.fault(1));
        }
        t.told(0, "", 0);
        t.due("an empty text empties", 0, t.x.look(10));
        t.told(8, "same;back;", 2);
        t.told(8, " \n ", 0);
        t.told(5, "\n", 0);
        // The rule stays as it was through a fault: still back.
        t.told(7, "back;", 1);
        t.faulty(7, "same;oops", 1, 5);
        t.told(1, "row 0 0 3;", 3);
        t.bricks(0, 1, 4, 5, 6);
        t.due("years", 1, t.x.years(1, 1, 1));
        t.stands("back", 0, 6, 5, 4);
    }

    private static void promise5shapes() {
        Talk t = new Talk("promise 5, shapes");
        t.told(0, "row 1 2 3;pile 0 6 2;cell 7 7;hole 2 2;hole 5 5;cell 1 2;", 5);
        int[][] cells = {{1, 2}, {3, 2}, {0, 6}, {0, 7}, {7, 7}};
        for (int i = 0; i < cells.length; i++) {
            t.due("x of " + i, cells[i][0], t.x.cell(0, i, 0));
            t.due("y of " + i, cells[i][1], t.x.cell(0, i, 1));
        }
        t.told(0, "hole 0 0;cell 0 0;", 1);
        t.told(0, "cell 0 0;hole 0 0;", 0);
        t.told(0, "\ncell0 0 ; row 0\n1 0008;", 9);
        t.told(0, "row 0 0 8;row 0 1 8;row 0 2 8;", 24);
        t.told(0, "row 0 0 8;row 0 1 8;row 0 2 8;row 0 2 8;hole 7 2;cell 7 3;", 24);
        t.faulty(0, "row 0 0 8;row 0 1 8;row 0 2 8;cell 0 3;hole 0 0;", 3, 30);
        // Its numbers are told, so the line's own fault stands ahead of the missing ;
        t.faulty(0, "row 0 0 8;row 0 1 8;row 0 2 8; cell 0 3", 3, 31);
        t.faulty(0, "row 0 0 8;row 0 1 8;row 0 2 8;cell 0", 1, 36);
        t.faulty(0, "row 0 0 8;row 0 1 8;row 0 2 8;row 0 3 9", 2, 38);
        t.faulty(0, "cell", 1, 4);
        t.faulty(0, "cell 0  ", 1, 8);
        t.faulty(0, "cell ; 0", 1, 5);
        t.faulty(0, "cell 8 0;", 2, 5);
        t.faulty(0, "cell 0 10;", 2, 7);
        t.faulty(0, "cell 00007 0;", 1, 5);
        t.faulty(0, "cell 0 0 1;", 1, 9);
        t.faulty(0, "cell 0 0", 1, 8);
        t.faulty(0, "row 0 0;", 1, 7);
        t.faulty(0, "row 0 0 0;", 2, 8);
        t.faulty(0, "row 3 0 6;", 2, 8);
        t.faulty(0, "pile 0 3 6;", 2, 9);
        t.faulty(0, "hole 0 8;", 2, 7);
        t.faulty(0, "cells 0 0;", 1, 0);
        for (String word : new String[] {"Cell", "cella", "cellz", "cellA", "cellZ", "cellcell"}) {
            t.faulty(0, word + " 0 0;", 1, 0);
        }
        for (String sign : new String[] {"@", "[", "`", "{", "/", ":", "_"}) {
            t.faulty(0, "cell" + sign + " 0 0;", 1, 4);
        }
        t.faulty(0, ";".repeat(400), 1, 0);
        t.faulty(0, "cell 0 0;" + " ".repeat(391 - 1) + "=", 1, 399);
        t.faulty(0, "cell 0 0" + " ".repeat(392), 1, 400);
        t.faulty(0, ";", 1, 0);
        t.faulty(0, "same;", 1, 0);
        t.faulty(0, "cell\t0 0;", 1, 4);
        t.faulty(0, "cell 0 0;;", 1, 9);
        t.told(0, "row 3 0 5;pile 0 3 5;", 10);
        String lines = "cell 0 0;".repeat(32);
        t.told(0, lines, 1);
        t.faulty(0, lines + "cell 0 0;", 3, 288);
        t.faulty(0, lines + "cell 9 9;", 3, 288);
        t.faulty(0, lines + "back", 1, 288);
        t.faulty(0, lines + ";", 1, 288);
    }

    private static void promise5rules() {
        Talk t = new Talk("promise 5, rules");
        t.told(6, "same;shift 9999;back;snake;pairs;mend;mix;", 7);
        t.told(6, "same when year+cells*bad/3-kept<met and not(1=2 or 3>0004);", 1);
        t.told(6, "mix when 1=" + "1+".repeat(193) + "1;", 1);
        t.faulty(6, "mix when 1=" + "1+".repeat(194) + "1", 1, 400);
        t.faulty(6, "shift;", 1, 5);
        t.faulty(6, "shift 12345;", 1, 6);
        t.faulty(6, "same 3;", 1, 5);
        t.faulty(6, "same when year;", 1, 14);
        t.faulty(6, "same when year=;", 1, 15);
        t.faulty(6, "same when year=1=1;", 1, 16);
        t.faulty(6, "same when (year)=1;", 1, 15);
        t.faulty(6, "same when year=(1);", 1, 15);
        t.faulty(6, "same when year=1 and;", 1, 20);
        t.faulty(6, "same when or;", 1, 10);
        t.faulty(6, "same when -1=1;", 1, 10);
        t.faulty(6, "same when year/0=1;", 2, 15);
        t.faulty(6, "same when year/0000=1;", 2, 15);
        t.faulty(6, "same when year/year=1;", 1, 15);
        t.faulty(6, "same when year/00000=1;", 1, 15);
        t.faulty(6, "same when (year=1;", 1, 17);
        t.faulty(6, "same when year=1);", 1, 16);
        t.faulty(6, "same when year=1", 1, 16);
        t.faulty(6, "same when years=1;", 1, 10);
        t.faulty(6, "same or back;", 1, 5);
        t.faulty(6, "cell 0 0;", 1, 0);
        t.told(6, "same when " + "not ".repeat(8) + "1=1;", 1);
        t.faulty(6, "same when " + "not ".repeat(9) + "1=1;", 3, 42);
        t.told(6, "same when " + "(".repeat(8) + "1=1" + ")".repeat(8) + ";", 1);
        t.faulty(6, "same when " + "(".repeat(9) + "1=1" + ")".repeat(9) + ";", 3, 18);
        t.faulty(6, "same when not(not(not(not((1=1)))));", 3, 26);
        // What is closed is open no more.
        t.told(6, "same when ((((((((1=1)))))))) and ((((((((1=1)))))))) or not not not 1=1;", 1);
        t.told(6, "same when (not 1=1) and not(1=1) and not not not not not not not not 1=1;", 1);
        String lines = "same;".repeat(16);
        t.told(6, lines, 16);
        t.faulty(6, lines + "mix;", 3, 80);
        t.faulty(6, lines + "row;", 1, 80);
        t.faulty(6, lines + " ;", 1, 81);
    }

    private static void promise6() {
        Talk t = new Talk("promise 6");
        t.faulty(0, "cell 0 0;x", 1, 9);
        t.due("fault 2", NONE, t.x.fault(2));
        t.due("fault -1", NONE, t.x.fault(-1));
        t.x.image(true);
        t.told(0, "cell 0 0;", 1);
        t.x.image(false);
        t.due("the image has no fault", 0, t.x.fault(0));
        t.due("nor its place", NONE, t.x.fault(1));
    }

    private static void promise7() {
        Talk t = new Talk("promise 7");
        t.told(0, "row 0 0 3;row 1 1 2;cell 1 2;", 6);
        int[] touching = {1, 3, 2, 3, 2, 1};
        int[] resting = {NONE, NONE, NONE, 1, 2, 3};
        for (int i = 0; i < 6; i++) {
            t.due("touching " + i, touching[i], t.x.cell(0, i, 2));
            t.due("resting " + i, resting[i], t.x.cell(0, i, 3));
        }
        // The end of a row does not touch the start of the next one.
        t.told(1, "cell 7 0;cell 0 1;cell 7 7;", 3);
        for (int i = 0; i < 3; i++) {
            t.due("touching none " + i, 0, t.x.cell(1, i, 2));
        }
        t.due("what 4", CANT, t.x.cell(0, 0, 4));
        t.due("what -1", CANT, t.x.cell(0, 0, -1));
        t.due("cell 6", CANT, t.x.cell(0, 6, 0));
        t.due("cell -1", CANT, t.x.cell(0, -1, 0));
        t.due("shape 6", CANT, t.x.cell(6, 0, 0));
        t.due("shape -1", CANT, t.x.cell(-1, 0, 0));
        t.due("no cells", CANT, t.x.cell(2, 0, 0));
    }

    private static void promise8() {
        Talk t = new Talk("promise 8");
        int[][] can = {{0, 0}, {0, 1}, {1, 0}, {1, 24}, {10, 0}, {10, 3}, {33, 3}, {40, 1}, {40, 0}, {63, 1}};
        int[][] cant = {{0, 2}, {0, -1}, {1, 25}, {1, -1}, {2, 0}, {9, 0}, {10, 4}, {10, -1}, {33, 4}, {34, 0}, {39, 0},
            {40, 2}, {40, -1}, {63, 2}, {64, 0}, {-1, 0}, {LEAST, 0}, {GREATEST, 1}};
        for (int[] one : can) {
            t.due("set " + one[0] + " " + one[1], true, t.x.set(one[0], one[1]));
        }
        for (int[] one : cant) {
            t.due("set " + one[0] + " " + one[1], false, t.x.set(one[0], one[1]));
        }
        t.due("ALIKE", 1, t.x.look(0));
        t.due("BEAR", 24, t.x.look(1));
    }

    private static void promise9() {
        Talk t = new Talk("promise 9");
        t.told(0, TWO_ROWS, 6);
        t.due("wall 5", true, t.x.wall(5, 0));
        t.stands("empty", 5, NONE, NONE, NONE, NONE, NONE, NONE);
        t.due("fill", true, t.x.fill(5, 0));
        t.told(0, "cell 0 0;", 1);
        t.stands("of the shape as it was", 5, 0, 1, 2, 3, 4, 5);
        t.due("beside in it", 1 | 4 | 16, t.x.beside(5, 1));
        t.due("again", true, t.x.wall(5, 0));
        t.stands("anew", 5, NONE);
        t.due("no cells", true, t.x.wall(5, 1));
        t.due("look", 0, t.x.look(25));
        for (int no : new int[] {-1, 6, LEAST, GREATEST}) {
            t.due("wall " + no, false, t.x.wall(no, 0));
            t.due("shape " + no, false, t.x.wall(0, no));
        }
    }

    private static void promise10() {
        Talk t = new Talk("promise 10");
        t.told(0, TWO_ROWS, 6);
        t.x.wall(0, 0);
        t.due("lay", true, t.x.lay(0, 2, 23));
        t.due("lay it again", true, t.x.lay(0, 2, 23));
        t.due("it lies in another cell", false, t.x.lay(0, 3, 23));
        t.due("lay another there", true, t.x.lay(0, 2, 0));
        t.due("now it is free", true, t.x.lay(0, 3, 23));
        t.due("take away", true, t.x.lay(0, 2, NONE));
        t.due("take away nothing", true, t.x.lay(0, 2, NONE));
        t.stands("then", 0, NONE, NONE, NONE, 23, NONE, NONE);
        t.x.wall(1, 0);
        t.due("a brick is in many walls", true, t.x.lay(1, 0, 23));
        t.due("cell 6", false, t.x.lay(0, 6, 1));
        t.due("cell -1", false, t.x.lay(0, -1, 1));
        t.due("brick 24", false, t.x.lay(0, 0, 24));
        t.due("brick -2", false, t.x.lay(0, 0, -2));
        t.due("wall 6", false, t.x.lay(6, 0, 1));
        t.due("wall -1", false, t.x.lay(-1, 0, 1));
        t.due("no cells", false, t.x.lay(2, 0, NONE));
    }

    private static void promise11() {
        Talk t = new Talk("promise 11");
        t.told(0, TWO_ROWS, 6);
        t.x.wall(0, 0);
        t.due("fill 18", true, t.x.fill(0, 18));
        t.stands("filled", 0, 18, 19, 20, 21, 22, 23);
        t.due("fill 17", true, t.x.fill(0, 17));
        for (int from : new int[] {19, 24, -1, LEAST, GREATEST}) {
            t.due("fill " + from, false, t.x.fill(0, from));
        }
        t.stands("as it was", 0, 17, 18, 19, 20, 21, 22);
        t.due("no cells", false, t.x.fill(1, 0));
        t.due("wall 6", false, t.x.fill(6, 0));
        t.due("wall -1", false, t.x.fill(-1, 0));
    }

    private static void promise12() {
        Talk t = new Talk("promise 12");
        t.told(0, "row 0 0 2;", 2);
        t.bricks(3, 0, NONE, 7);
        t.due("empty", NONE, t.x.at(3, 0));
        t.due("brick", 7, t.x.at(3, 1));
        t.due("cell 2", CANT, t.x.at(3, 2));
        t.due("cell -1", CANT, t.x.at(3, -1));
        t.due("wall 6", CANT, t.x.at(6, 0));
        t.due("wall -1", CANT, t.x.at(-1, 0));
        t.due("no cells", CANT, t.x.at(2, 0));
    }

    private static void promise13() {
        Talk t = new Talk("promise 13");
        t.told(0, TWO_ROWS, 6);
        t.x.wall(0, 0);
        t.x.fill(0, 10);
        t.due("11", 1 << 10 | 1 << 12 | 1 << 14, t.x.beside(0, 11));
        t.due("15", 1 << 12 | 1 << 14, t.x.beside(0, 15));
        t.x.lay(0, 4, NONE);
        t.due("11 without 14", 1 << 10 | 1 << 12, t.x.beside(0, 11));
        t.due("14", NONE, t.x.beside(0, 14));
        t.told(1, "cell 7 0;cell 0 1;", 2);
        t.bricks(1, 1, 0, 23);
        t.due("nobody", 0, t.x.beside(1, 0));
        t.due("brick -1", NONE, t.x.beside(0, -1));
        t.due("brick 24", NONE, t.x.beside(0, 24));
        t.due("wall 6", NONE, t.x.beside(6, 11));
        t.due("wall -1", NONE, t.x.beside(-1, 11));
    }

    private static void promise14() {
        Talk t = new Talk("promise 14");
        t.told(0, TWO_ROWS, 6);
        t.told(1, "row 0 0 3;", 3);
        t.bricks(0, 0, 0, 1, 2, 3, 4, 5);
        t.bricks(1, 0, 0, 3, 1, 4, 5, 2);
        goodness(t, 0, 1, 0, 0, 4, 1);
        t.bricks(2, 1, 0, 1, 2);
        t.bricks(3, 1, 0, 2, 1);
        goodness(t, 2, 3, 1, 1, 1, 0);
        goodness(t, 3, 2, 1, 1, 1, 0);
        t.x.set(1, 1);
        goodness(t, 2, 3, 1, 1, 1, 1);
        t.x.set(0, 1);
        goodness(t, 2, 3, 0, 0, 1, 1);
        t.x.set(12, 1);
        goodness(t, 2, 3, 1, 1, 1, 1);
        t.x.set(11, 1);
        goodness(t, 2, 3, 0, 0, 1, 1);
        // One that was not in the old wall is bad, also if all are alike.
        t.bricks(3, 1, 0, 1, 7);
        t.x.set(1, 0);
        goodness(t, 2, 3, 128, 1, 1, 0);
        // Brick 0 has its own mark alone.
        t.bricks(2, 1, 1, 0, 4);
        t.bricks(3, 1, 1, 2, 4);
        t.x.set(14, 2);
        goodness(t, 2, 3, 1 << 1 | 1 << 2 | 1 << 4, 3, 0, 0);
        // A brick with nobody beside it is bad even from the same wall.
        t.bricks(4, 1, 0, NONE, 2);
        goodness(t, 4, 4, 5, 2, 0, 0);
        goodness(t, 4, 5, 0, 0, 0, 1);
        t.due("what 4", CANT, t.x.good(0, 1, 4));
        t.due("what -1", CANT, t.x.good(0, 1, -1));
        t.due("old wall 6", CANT, t.x.good(6, 1, 0));
        t.due("old wall -1", CANT, t.x.good(-1, 1, 0));
        t.due("new wall 6", CANT, t.x.good(0, 6, 0));
        t.due("new wall -1", CANT, t.x.good(0, -1, 0));
    }

    private static void goodness(Talk t, int a, int b, int... want) {
        for (int what = 0; what < 4; what++) {
            t.due("good " + a + " " + b + " " + what, want[what], t.x.good(a, b, what));
        }
    }

    private static void promise15() {
        Talk t = new Talk("promise 15");
        t.told(0, "row 0 0 3;", 3);
        t.bricks(0, 0, 0, 1, 2);
        t.bricks(1, 0, 0, 2, 1);
        t.bricks(2, 0, 0, 1, 2);
        t.due("0 2 0", NONE, t.x.judge(12, 3));
        t.due("0 2 1", 2, t.x.judge(13, 3));
        t.due("0 1 2", 1, t.x.judge(8, 3));
        t.due("2 1", 1, t.x.judge(13, 2));
        t.due("0 0 0 0 0 1", 5, t.x.judge(1, 6));
        t.due("5 5 5 5 5 5", NONE, t.x.judge(46655, 6));
        t.x.set(1, 1);
        t.due("0 2 1 with one borne", NONE, t.x.judge(13, 3));
        t.due("too high", CANT, t.x.judge(46656, 6));
        t.due("too high", CANT, t.x.judge(36, 2));
        t.due("highest", NONE, t.x.judge(35, 2));
        t.due("too high", CANT, t.x.judge(GREATEST, 6));
        t.due("below 0", CANT, t.x.judge(-1, 2));
        t.due("n 1", CANT, t.x.judge(0, 1));
        t.due("n 7", CANT, t.x.judge(0, 7));
        t.due("n least", CANT, t.x.judge(0, LEAST));
    }

    private static void promise16() {
        Talk t = new Talk("promise 16");
        t.told(0, TWO_ROWS, 6);
        t.told(1, "row 0 0 4;", 4);
        t.told(2, "row 0 0 2;row 0 1 2;row 0 2 2;", 6);
        t.told(3, "row 0 0 8;", 8);
        t.told(4, "row 0 1 3;row 0 2 2;", 5);
        t.bricks(0, 0, 0, 1, 2, 3, 4, 5);
        t.due("same", 2, t.x.again(0, 1, 1, 0, 0));
        t.stands("same", 1, 0, 1, 2, 3);
        t.due("same in 8", 0, t.x.again(0, 1, 3, 0, -5));
        t.stands("same in 8", 1, 0, 1, 2, 3, 4, 5, NONE, NONE);
        t.due("shift 2", 2, t.x.again(0, 1, 1, 1, 2));
        t.stands("shift 2", 1, 2, 3, 0, 1);
        t.due("shift 99", 0, t.x.again(0, 1, 3, 1, 99));
        t.stands("shift 99", 1, 5, NONE, NONE, 0, 1, 2, 3, 4);
        t.due("back", 2, t.x.again(0, 1, 1, 2, 0));
        t.stands("back", 1, 3, 2, 1, 0);
        t.due("back in 8", 0, t.x.again(0, 1, 3, 2, 0));
        t.stands("back in 8", 1, NONE, NONE, 5, 4, 3, 2, 1, 0);
        t.due("snake", 0, t.x.again(0, 1, 2, 3, 0));
        t.stands("snake", 1, 0, 1, 3, 2, 4, 5);
        t.due("snake from y 1", 1, t.x.again(0, 1, 4, 3, 0));
        t.stands("snake from y 1", 1, 2, 1, 0, 3, 4);
        t.bricks(2, 0, 9, NONE, 7, NONE, 3, NONE);
        t.due("empty ones left out", 0, t.x.again(2, 1, 1, 0, 0));
        t.stands("empty ones left out", 1, 9, 7, 3, NONE);
        t.due("itself", 0, t.x.again(0, 0, 2, 2, 0));
        t.stands("itself", 0, 5, 4, 3, 2, 1, 0);
        t.due("of no bricks", 0, t.x.again(5, 0, 1, 4, 0));
        t.stands("of no bricks", 0, NONE, NONE, NONE, NONE);
        int[][] cant = {{6, 0, 0, 0, 0}, {-1, 0, 0, 0, 0}, {0, 6, 0, 0, 0}, {0, -1, 0, 0, 0}, {0, 0, 6, 0, 0}, {0, 0, -1, 0, 0},
            {0, 0, 5, 0, 0}, {0, 0, 0, 7, 0}, {0, 0, 0, -1, 0}, {0, 0, 0, 1, 100}, {0, 0, 0, 1, -1}};
        for (int[] n : cant) {
            t.due("again " + Arrays.toString(n), NONE, t.x.again(n[0], n[1], n[2], n[3], n[4]));
        }
        t.stands("as it was", 0, NONE, NONE, NONE, NONE);
    }

    private static void promise16pairs() {
        Talk t = new Talk("promise 16, pairs");
        t.told(0, TWO_ROWS, 6);
        t.told(1, "row 0 0 4;", 4);
        t.told(2, "pile 0 0 5;", 5);
        t.told(3, "cell 0 0;row 2 0 2;", 3);
        t.bricks(0, 0, 10, 11, 12, 13, 14, 15);
        t.due("to 4", 2, t.x.again(0, 1, 1, 4, 0));
        t.stands("to 4", 1, 10, 11, 12, 15);
        t.due("to a pile", 1, t.x.again(0, 1, 2, 4, 0));
        t.stands("to a pile", 1, 10, 11, 12, 15, 13);
        t.bricks(2, 0, 9, NONE, 7, 8, 3, NONE);
        t.due("with empty ones", 0, t.x.again(2, 1, 1, 4, 0));
        t.stands("with empty ones", 1, 9, 8, 7, 3);
        t.due("to a single one and a couple", 1, t.x.again(2, 1, 3, 4, 0));
        t.stands("to a single one and a couple", 1, 7, 9, 8);
    }

    private static void promise16mend() {
        Talk t = new Talk("promise 16, mend");
        t.told(0, "row 0 0 3;", 3);
        t.told(1, "row 0 0 2;cell 0 1;", 3);
        t.told(2, "row 0 0 2;row 0 1 2;", 4);
        t.told(3, "row 0 0 4;", 4);
        t.told(4, "cell 0 0;row 2 0 2;", 3);
        t.told(5, "row 0 0 2;", 2);
        t.bricks(0, 0, 0, 1, 2);
        t.due("fewer bad", 0, t.x.again(0, 1, 1, 5, 0));
        t.stands("fewer bad", 1, 1, 0, 2);
        t.bricks(0, 2, 0, 1, 2, 3);
        t.due("more kept", 0, t.x.again(0, 1, 3, 5, 0));
        t.stands("more kept", 1, 1, 0, 2, 3);
        t.bricks(0, 5, 5, 6);
        t.due("empty ones, too", 0, t.x.again(0, 1, 4, 5, 0));
        t.stands("empty ones, too", 1, NONE, 6, 5);
        t.bricks(0, 2, 0, 1, 2, 3);
        t.due("nothing to mend", 0, t.x.again(0, 0, 2, 5, 0));
        t.stands("nothing to mend", 0, 0, 1, 2, 3);
    }

    private static void promise16mix() {
        Talk t = new Talk("promise 16, mix");
        t.told(0, "row 0 0 4;", 4);
        t.bricks(0, 0, 0, 1, 2, 3);
        t.x.state(0);
        t.due("mix", 0, t.x.again(0, 1, 0, 6, 0));
        // The draws: 3960563 of 4 is 3, 4673577 of 3 is 0, 13749494 of 2 is 0.
        t.stands("mix", 1, 1, 2, 0, 3);
        t.due("the state goes on", -775096599, t.x.look(2));
    }

    /** A row of bricks 0 1 2, and a rule that shifts, goes back and then lets it be. */
    private static Talk threeYears(String name) {
        Talk t = new Talk(name);
        t.told(0, "row 0 0 3;", 3);
        t.told(6, "shift 1 when year=0;back when year=1;", 2);
        t.bricks(0, 0, 0, 1, 2);
        t.due("years", 2, t.x.years(0, 0, 3));
        return t;
    }

    private static void promise17() {
        Talk t = threeYears("promise 17");
        t.stands("after three years", 0, 1, 0, 2);
        t.told(8, "mix;", 1);
        t.x.state(5);
        t.due("a rule without lines", 30, t.x.years(1, 0, 30));
        t.due("does not draw", 5, t.x.look(2));
        t.stands("puts up as same", 0, 1, 0, 2);
        t.told(1, "row 0 0 2;", 2);
        t.due("in another shape", 1, t.x.years(1, 1, 1));
        t.stands("in another shape", 0, 1, 0);
        int[][] cant = {{-1, 0, 1}, {3, 0, 1}, {0, -1, 1}, {0, 6, 1}, {0, 5, 1}, {0, 0, 0}, {0, 0, 31}, {0, 0, -1},
            {LEAST, LEAST, LEAST}, {GREATEST, GREATEST, GREATEST}};
        for (int[] n : cant) {
            t.due("years " + Arrays.toString(n), NONE, t.x.years(n[0], n[1], n[2]));
        }
        t.due("YEAR", 34, t.x.met(4));
        for (int i = 0; i < 32; i++) {
            t.due("thirty years", 30, t.x.years(1, 1, 30));
        }
        t.due("YEAR", 994, t.x.met(4));
        t.due("YEAR beyond 999", NONE, t.x.years(1, 1, 6));
        t.due("YEAR 999", 5, t.x.years(1, 1, 5));
        t.due("one more", NONE, t.x.years(1, 1, 1));
        t.due("YEAR", 999, t.x.met(4));
        Talk empty = new Talk("promise 17, empty");
        empty.told(0, "row 0 0 3;", 3);
        empty.due("no wall", NONE, empty.x.years(0, 0, 1));
        empty.x.wall(0, 0);
        empty.due("no bricks", NONE, empty.x.years(0, 0, 1));
        empty.x.lay(0, 1, 3);
        empty.due("one brick is bad", 0, empty.x.years(0, 0, 1));
        empty.x.set(1, 1);
        empty.due("one brick is borne", 2, empty.x.years(0, 0, 2));
    }

    private static void promise17values() {
        String[] so = {"year=0", "cells=3", "bad=0", "kept=2", "met=0", "2+3*4=14", "8-3-2=3", "7/2*2=6", "1<2", "2>1",
            "1=1 or 1=2 and 1=2", "1=2 and 1=2 or 1=1", "not 1=2", "not not 1=1", "(1=1)", "(1=2 or 1=1) and 1=1",
            "9999*9999*22/1000=0-2095*1000-407", "9999*9999*9999*9999>0-1", "0-1<0", "0003=3", "6/4=1", "2*3/4=1",
            "7/1=7", "1=2 or 1=1 and (".repeat(8) + "4=1+1*3" + ")".repeat(8)};
        String[] not = {"year=1", "1<1", "1>1", "2<1", "not 1=1", "not 1=2 and 1=2", "1=2 or 1=2", "1=1 and 1=2",
            "(1=1 or 1=1) and 1=2", "not(1=1 or 1=2)", "0-1>0", "9999*9999*22>0",
            "1=2 or 1=1 and (".repeat(8) + "5=1+1*3" + ")".repeat(8)};
        for (String condition : so) {
            conditionIs(condition, true);
        }
        for (String condition : not) {
            conditionIs(condition, false);
        }
        // Bad and kept are those of the wall put up as same, met those of the years before.
        Talk t = new Talk("promise 17, values");
        t.told(0, "row 0 0 3;", 3);
        t.told(1, "cell 0 0;row 2 0 2;", 3);
        t.told(6, "back when bad=1 and kept=1 and met=0 and cells=3;", 1);
        t.told(7, "same when met=2;back when met=1 and year=1;", 2);
        t.bricks(0, 0, 4, 5, 6);
        t.x.years(0, 1, 1);
        t.stands("bad and kept", 0, 6, 5, 4);
        t.x.years(1, 0, 1);
        t.stands("met", 0, 4, 5, 6);
        t.told(8, "same when 1=2;shift 2;back;", 3);
        t.x.years(2, 0, 1);
        t.stands("the first line that is so", 0, 5, 6, 4);
    }

    private static void conditionIs(String condition, boolean so) {
        Talk t = new Talk("promise 17, " + condition);
        t.told(0, "row 0 0 3;", 3);
        t.told(6, "back when " + condition + ";", 1);
        t.bricks(0, 0, 0, 1, 2);
        t.x.years(0, 0, 1);
        t.due("first brick", so ? 2 : 0, t.x.at(0, 0));
    }

    private static void promise18() {
        Talk t = threeYears("promise 18");
        int[][] years = {{1, 1, 0, 2}, {0, 2, 1, 2}, {0, 2, 1, 2}};
        for (int i = 0; i < 3; i++) {
            for (int what = 0; what < 4; what++) {
                t.due("history " + i + " " + what, years[i][what], t.x.history(i, what));
            }
        }
        t.x.set(1, 24);
        t.due("good as it was then", 0, t.x.history(0, 2));
        t.due("year 3", NONE, t.x.history(3, 0));
        t.due("year -1", NONE, t.x.history(-1, 0));
        t.due("what 4", NONE, t.x.history(0, 4));
        t.due("what -1", NONE, t.x.history(0, -1));
        t.x.years(1, 0, 30);
        t.x.years(1, 0, 26);
        t.told(1, "cell 0 0;", 1);
        t.x.set(1, 0);
        t.due("year 59, 60", 0, t.x.years(1, 1, 2));
        t.due("year 59", 1, t.x.history(59, 0));
        t.due("year 60", NONE, t.x.history(60, 0));
        t.due("YEARS of the HISTORY", 60, t.x.met(5));
        t.due("YEAR", 61, t.x.met(4));
    }

    private static void promise19() {
        Talk t = new Talk("promise 19");
        t.told(0, TWO_ROWS, 6);
        t.bricks(0, 0, 0, 1, 2, 3, 4, 5);
        t.due("15 couples by 7", 3, t.x.met(3));
        t.due("nobody has met", 15, t.x.met(1));
        t.x.lay(0, 5, NONE);
        t.due("10 couples by 7", 2, t.x.met(3));
        t.x.lay(0, 4, NONE);
        t.x.lay(0, 3, NONE);
        t.due("3 couples by 7", 1, t.x.met(3));
        t.x.lay(0, 2, NONE);
        t.x.lay(0, 1, NONE);
        t.due("no couples by 7", 0, t.x.met(3));
        t.told(1, "cell 7 0;cell 0 1;", 2);
        t.x.wall(0, 1);
        t.due("no cells touch", NONE, t.x.met(3));
        Talk three = threeYears("promise 19, three years");
        three.due("met", 2, three.x.met(0));
        three.due("never", 1, three.x.met(1));
        three.due("always", 2, three.x.met(2));
        three.due("YEAR", 3, three.x.met(4));
        three.due("HISTORY", 3, three.x.met(5));
        three.bricks(0, 0, 2, 1, 9);
        three.due("a laid wall has not met", 2, three.x.met(0));
        three.due("never of the wall as it is", 3, three.x.met(1));
        three.x.years(1, 0, 1);
        three.due("met then", 4, three.x.met(0));
        three.due("never then", 1, three.x.met(1));
        three.due("always then", 0, three.x.met(2));
        for (int what : new int[] {-1, 6, LEAST, GREATEST}) {
            three.due("met " + what, NONE, three.x.met(what));
        }
    }

    private static void promise20() {
        Talk t = threeYears("promise 20");
        int[][] twos = {{0, 1, 0, 0, 1}, {2, 0, 0, 0, 1}, {1, 2, NONE, 3, 0}, {22, 23, NONE, 3, 0}};
        for (int[] n : twos) {
            for (int what = 0; what < 3; what++) {
                t.due("two " + n[0] + " " + n[1] + " " + what, n[2 + what], t.x.two(n[0], n[1], what));
                t.due("two " + n[1] + " " + n[0] + " " + what, n[2 + what], t.x.two(n[1], n[0], what));
            }
        }
        // 1 2 0 once, then 0 1 2 again: apart twice, three years first and one year later.
        t.bricks(0, 0, 0, 1, 2);
        t.x.years(1, 0, 1);
        t.due("FIRST of 1 2", 3, t.x.two(1, 2, 0));
        t.due("APART of 1 2", 3, t.x.two(1, 2, 1));
        t.due("APART of 0 2", 1, t.x.two(0, 2, 1));
        t.due("APART of 0 1", 0, t.x.two(0, 1, 1));
        int[][] cant = {{0, 0, 0}, {24, 0, 0}, {0, 24, 0}, {-1, 0, 0}, {0, -1, 1}, {0, 1, 3}, {0, 1, -1}};
        for (int[] n : cant) {
            t.due("two " + Arrays.toString(n), CANT, t.x.two(n[0], n[1], n[2]));
        }
        // They meet when the history keeps no more years.
        Talk late = new Talk("promise 20, late");
        late.told(0, "row 0 0 3;", 3);
        late.told(6, "shift 1 when year=70;", 1);
        late.bricks(0, 0, 0, 1, 2);
        late.x.years(0, 0, 30);
        late.x.years(0, 0, 30);
        late.x.years(0, 0, 30);
        late.due("FIRST", 70, late.x.two(0, 2, 0));
        late.due("MET", 1, late.x.two(0, 2, 2));
        late.due("APART of the HISTORY", 60, late.x.two(0, 2, 1));
    }

    private static void promise21() {
        Talk t = new Talk("promise 21");
        parted(t, TWO_ROWS, 3, 0, 3);
        parted(t, "row 0 0 5;", 2, 1);
        parted(t, "row 0 0 2;cell 0 1;", 1);
        parted(t, "row 0 1 3;pile 1 0 3;", 1);
        parted(t, "row 0 0 2;cell 3 0;", 1);
        parted(t, "cell 3 3;", 0);
        parted(t, "row 6 0 2;row 0 1 2;", 2, 2);
        parted(t, "pile 0 0 3;pile 1 0 3;", 3, 0, 3);
        parted(t, "row 0 0 8;row 0 1 8;row 0 2 8;", 12, 0, 3, 6, 9, 12);
        parted(t, "row 0 0 5;row 0 1 5;row 0 2 5;row 0 3 5;row 0 4 4;", 12, 3, 6, 9, 12);
        for (int no : new int[] {-2, 13, LEAST, GREATEST}) {
            t.due("c " + no, NONE, t.x.parting(0, no));
        }
        t.due("shape 6", NONE, t.x.parting(6, 0));
        t.due("shape -1", NONE, t.x.parting(-1, NONE));
        t.due("no cells", NONE, t.x.parting(1, 0));
        t.due("no cells", NONE, t.x.parting(1, NONE));
    }

    private static void parted(Talk t, String shape, int most, int... couples) {
        t.due("text", true, t.tell(0, shape) > 0);
        t.due("most couples of " + shape, most, t.x.parting(0, NONE));
        for (int c = 0; c <= 12; c++) {
            int asked = c;
            boolean can = Arrays.stream(couples).anyMatch(one -> one == asked);
            t.due(c + " couples of " + shape, can ? 1 : 0, t.x.parting(0, c));
        }
    }

    private static void promise22() {
        Talk t = new Talk("promise 22");
        t.told(0, "row 0 0 3;", 3);
        t.told(1, "cell 0 0;cell 2 0;cell 4 0;", 3);
        t.told(2, "row 0 0 7;", 7);
        t.told(3, "row 0 0 8;", 8);
        t.bricks(0, 0, 5, 1, 3);
        all(t, 0, 0, 0, 2, 2, 3, 1, 5);
        all(t, 0, 1, 3, 0, 0, 1, 3, 5);
        t.x.set(1, 1);
        all(t, 0, 0, 0, 2, 6, 3, 1, 5);
        t.x.set(1, 0);
        t.x.set(0, 1);
        all(t, 0, 0, 0, 2, 6, 3, 1, 5);
        t.x.set(0, 0);
        t.bricks(1, 3, NONE, 4, NONE, 5, NONE, NONE, 23, 22);
        t.due("not as many cells", NONE, t.x.layings(1, 0, 0));
        t.x.lay(1, 1, NONE);
        all(t, 1, 0, 1, 1, 0, 5, 22, 23);
        t.bricks(2, 2, 6, 5, 4, 3, 2, 1, 0);
        all(t, 2, 2, 0, 6, 128, 0, 1, 2, 3, 4, 5, 6);
        t.due("cell 7 of 7", NONE, t.x.layings(2, 2, 17));
        t.x.wall(3, 3);
        t.x.fill(3, 0);
        t.due("8 bricks", NONE, t.x.layings(3, 3, 0));
        t.due("no bricks", NONE, t.x.layings(4, 4, 0));
        t.due("no cells", NONE, t.x.layings(0, 4, 0));
        t.due("too many cells", NONE, t.x.layings(0, 2, 0));
        for (int what : new int[] {-1, 3, 9, 13, LEAST, GREATEST}) {
            t.due("what " + what, NONE, t.x.layings(0, 0, what));
        }
        t.due("wall 6", NONE, t.x.layings(6, 0, 0));
        t.due("wall -1", NONE, t.x.layings(-1, 0, 0));
        t.due("shape 6", NONE, t.x.layings(0, 6, 0));
        t.due("shape -1", NONE, t.x.layings(0, -1, 0));
        t.stands("the wall stays as it was", 0, 5, 1, 3);
    }

    /** Fewest bad, most kept, how many good, then the first best row. */
    private static void all(Talk t, int a, int shape, int... want) {
        for (int i = 0; i < want.length; i++) {
            int what = i < 3 ? i : 7 + i;
            t.due("layings " + a + " " + shape + " " + what, want[i], t.x.layings(a, shape, what));
        }
    }

    private static void promise23() {
        Talk t = new Talk("promise 23");
        t.told(0, "row 0 0 2;row 0 1 2;", 4);
        t.told(1, "row 0 0 4;", 4);
        t.bricks(0, 0, 0, 1, 2, 3);
        ordered(t, 0, 0, 1, 0, 1, 2, 3);
        t.bricks(1, 1, 0, 2, 1, 3);
        ordered(t, 1, 0, 2, 0, 2, 1, 3);
        t.x.set(0, 1);
        ordered(t, 1, 0, 2, 0, 2, 1, 3);
        t.bricks(2, 0, NONE, 1, 2, 3);
        ordered(t, 2, 2, 1, 1, 3, 2);
        ordered(t, 5, 0, 4, 0, 1, 2, 3);
        ordered(t, 0, 5, 0);
        for (int what : new int[] {-1, 1, 9, 14, LEAST, GREATEST}) {
            t.due("what " + what, NONE, t.x.order(0, 0, what));
        }
        t.due("wall 6", NONE, t.x.order(6, 0, 0));
        t.due("wall -1", NONE, t.x.order(-1, 0, 0));
        t.due("wall 6", NONE, t.x.order(0, 6, 0));
        t.due("wall -1", NONE, t.x.order(0, -1, 0));
    }

    private static void ordered(Talk t, int a, int b, int starts, int... bricks) {
        t.due("starts of " + b + " with " + a, starts, t.x.order(a, b, 0));
        for (int i = 0; i < bricks.length; i++) {
            t.due("order " + a + " " + b + " " + i, bricks[i], t.x.order(a, b, 10 + i));
        }
        t.due("one more", NONE, t.x.order(a, b, 10 + bricks.length));
    }

    private static void promise24() {
        Talk t = new Talk("promise 24");
        t.told(0, "row 0 0 8;row 0 1 7;", 15);
        t.x.wall(0, 0);
        borne(t, NONE, NONE);
        t.bricks(0, 0, 7);
        borne(t, NONE, NONE);
        t.bricks(0, 0, 7, 5);
        borne(t, 0, 0);
        t.bricks(0, 0, 7, 5, 3);
        borne(t, 1, 1);
        t.bricks(0, 0, NONE, 7, 5, 3, 1);
        borne(t, 2, 9);
        t.bricks(0, 0, 7, 5, NONE, 1);
        borne(t, NONE, NONE);
        t.x.fill(0, 0);
        borne(t, NONE, NONE);
        t.x.lay(0, 7, NONE);
        // 2 times 7: 1 8 10 11 12 13 stay.
        borne(t, 8, 765);
        t.due("what 2", NONE, t.x.borne(0, 2));
        t.due("what -1", NONE, t.x.borne(0, -1));
        t.due("wall 6", NONE, t.x.borne(6, 0));
        t.due("wall -1", NONE, t.x.borne(-1, 0));
        t.due("no cells", NONE, t.x.borne(1, 0));
    }

    private static void borne(Talk t, int many, int set) {
        t.due("how many", many, t.x.borne(0, 0));
        t.due("the set", set, t.x.borne(0, 1));
    }

    private static void promise25() {
        Talk t = new Talk("promise 25");
        t.told(0, TWO_ROWS, 6);
        t.told(1, "row 0 0 8;row 0 1 8;row 0 2 8;", 24);
        t.told(2, "row 0 0 8;row 0 1 8;row 0 2 6;", 22);
        t.bricks(0, 0, 0, 1, 2, 3, 4, NONE);
        t.due("none broken", 0, t.x.spares(0));
        for (int brick : new int[] {1, 4, 6}) {
            t.x.set(40 + brick, 1);
        }
        t.due("two broken", 2, t.x.spares(0));
        t.stands("two broken", 0, 0, 5, 2, 3, 7, NONE);
        t.due("none left", 0, t.x.spares(0));
        t.x.set(47, 1);
        t.x.set(41, 0);
        t.due("one whole again", 1, t.x.spares(0));
        t.stands("one whole again", 0, 0, 5, 2, 3, 1, NONE);
        t.x.wall(1, 1);
        t.x.fill(1, 0);
        t.due("no spares", 0, t.x.spares(1));
        t.due("it stays", 4, t.x.at(1, 4));
        t.x.wall(2, 2);
        t.x.fill(2, 0);
        t.x.set(62, 1);
        t.due("one spare for three", 1, t.x.spares(2));
        t.due("the first has it", 23, t.x.at(2, 4));
        t.due("the second stays", 6, t.x.at(2, 6));
        t.due("no cells", 0, t.x.spares(3));
        t.due("wall 6", NONE, t.x.spares(6));
        t.due("wall -1", NONE, t.x.spares(-1));
    }

    private static void promise26() {
        Talk t = new Talk("promise 26");
        t.told(0, "row 0 1 3;pile 1 0 4;", 6);
        t.bricks(0, 0, 0, 1, 2, 3, 4, 5);
        // Cells: 0 below, 1 2 3 the row, 4 and 5 above its middle.
        int[][] doors = {{0, 1, 0}, {1, 1, 0}, {2, 4, 3}, {3, 1, 0}, {4, 2, 1}, {5, 1, 0}};
        for (int[] n : doors) {
            t.due("parts " + n[0], n[1], t.x.door(0, n[0], 0));
            t.due("nobody " + n[0], n[2], t.x.door(0, n[0], 1));
        }
        t.stands("as it was", 0, 0, 1, 2, 3, 4, 5);
        t.bricks(1, 0, 9);
        t.due("the only one: parts", 0, t.x.door(1, 0, 0));
        t.due("the only one: nobody", 0, t.x.door(1, 0, 1));
        t.due("empty cell", NONE, t.x.door(1, 1, 0));
        t.due("cell 6", NONE, t.x.door(0, 6, 0));
        t.due("cell -1", NONE, t.x.door(0, -1, 0));
        t.due("what 2", NONE, t.x.door(0, 0, 2));
        t.due("what -1", NONE, t.x.door(0, 0, -1));
        t.due("wall 6", NONE, t.x.door(6, 0, 0));
        t.due("wall -1", NONE, t.x.door(-1, 0, 0));
        t.told(1, "cell 7 0;cell 0 1;cell 3 3;", 3);
        t.bricks(2, 1, 1, 2, 3);
        t.due("the end of a row: parts", 2, t.x.door(2, 2, 0));
    }

    private static void promise27() {
        Talk t = new Talk("promise 27");
        t.told(0, "row 0 0 3;", 3);
        t.told(1, "row 0 0 2;", 2);
        t.bricks(0, 0, 0, 1, 2);
        t.bricks(1, 1, 0, 1);
        t.bricks(2, 0, 0, 2, 1);
        t.due("1", 1, t.x.older(0, 1, 0));
        t.due("2", 2, t.x.older(1, 0, 0));
        t.due("0", 0, t.x.older(0, 2, 0));
        t.due("3", 3, t.x.older(0, 0, 0));
        t.due("tells 0 1", 2, t.x.older(0, 1, 1));
        t.due("tells 0 0", 3, t.x.older(0, 0, 1));
        t.x.set(1, 1);
        t.due("tells 0 0 with one borne", 1, t.x.older(0, 0, 1));
        t.stands("as it was", 0, 0, 1, 2);
        t.due("what 2", NONE, t.x.older(0, 0, 2));
        t.due("what -1", NONE, t.x.older(0, 0, -1));
        t.due("wall 6", NONE, t.x.older(6, 0, 0));
        t.due("wall -1", NONE, t.x.older(-1, 0, 0));
        t.due("wall 6", NONE, t.x.older(0, 6, 0));
        t.due("wall -1", NONE, t.x.older(0, -1, 1));
        t.due("no cells", 3, t.x.older(4, 5, 0));
        t.due("no bricks to tell", 0, t.x.older(4, 5, 1));
    }

    private static void promise28() {
        Talk t = threeYears("promise 28");
        // The years: 2 0 1, then 1 0 2 twice.
        int[][] reds = {{0, 1, 2}, {1, 1, 0}, {2, 0, NONE}, {23, 0, NONE}};
        for (int[] n : reds) {
            t.due("how many " + n[0], n[1], t.x.red(n[0], 0));
            t.due("which " + n[0], n[2], t.x.red(n[0], 1));
        }
        t.bricks(0, 0, 2, 0, 1);
        t.x.years(1, 0, 2);
        t.due("again", 3, t.x.red(0, 0));
        t.due("brick 24", CANT, t.x.red(24, 0));
        t.due("brick -1", CANT, t.x.red(-1, 0));
        t.due("what 2", CANT, t.x.red(0, 2));
        t.due("what -1", CANT, t.x.red(0, -1));
        Talk none = new Talk("promise 28, none");
        none.due("no years", 0, none.x.red(0, 0));
        none.due("no years", NONE, none.x.red(0, 1));
        // The end of a row is not left of the start of the next one.
        none.told(0, "cell 7 0;row 0 1 2;", 3);
        none.bricks(0, 0, 3, 4, 5);
        none.x.years(0, 0, 1);
        none.due("start of a row", NONE, none.x.red(4, 1));
        none.due("its second", 4, none.x.red(5, 1));
    }

    private static void promise29() {
        Talk t = threeYears("promise 29");
        t.x.state(77);
        t.x.set(0, 1);
        t.x.set(1, 3);
        t.x.set(13, 2);
        t.x.set(43, 1);
        t.due("none", false, t.x.image(false));
        t.due("taken", true, t.x.image(true));
        for (int i = 0; i < 2; i++) {
            t.x.state(78);
            t.x.set(0, 0);
            t.x.set(1, 0);
            t.x.set(13, 0);
            t.x.set(43, 0);
            t.told(0, "row 0 0 2;", 2);
            t.told(6, "", 0);
            t.x.years(0, 0, 2);
            t.bricks(0, 0, 8, 9);
            t.x.feed(1, 2, 3, 4, 5);
            t.due("gone back", true, t.x.image(false));
            t.due("the tape stays", true, t.x.end(20));
            t.x.end(0);
            t.due("STATE", 77, t.x.look(2));
            t.due("ALIKE", 1, t.x.look(0));
            t.due("BEAR", 3, t.x.look(1));
            t.due("SHAPE", 3, t.x.look(10));
            t.stands("WALL", 0, 1, 0, 2);
            t.due("YEAR", 3, t.x.met(4));
            t.due("HISTORY", 3, t.x.met(5));
            t.due("MET", 2, t.x.met(0));
            t.due("ALWAYS", 2, t.x.met(2));
            t.due("RED", 2, t.x.red(0, 1));
            t.bricks(1, 0, 3, 4, 5);
            t.due("broken", 1, t.x.spares(1));
        }
        // The mark and the rule as they were: brick 3 is no more like 4, and year 3 has no line.
        t.x.set(1, 0);
        t.bricks(1, 0, 4, 3, 5);
        t.bricks(2, 0, 6, 5, 4);
        t.due("MARK", 1 << 6 | 1 << 5 | 1 << 4, t.x.good(1, 2, 0));
        t.x.years(0, 0, 1);
        t.stands("RULE", 0, 1, 0, 2);
    }

    private static void promise30() {
        Talk t = new Talk("promise 30");
        t.told(5, TWO_ROWS, 6);
        t.told(0, "cell 0 0;", 1);
        t.bricks(5, 5, 4, NONE, 2);
        t.bricks(0, 0, 9);
        t.x.set(0, 1);
        t.x.set(1, 20);
        t.x.state(LEAST);
        int[][] looks = {{0, 1}, {1, 20}, {2, LEAST}, {10, 1}, {11, 0}, {15, 6}, {20, 1}, {25, 6}, {24, 0}, {30, 1}, {35, 2},
            {34, 0}, {3, NONE}, {9, NONE}, {16, NONE}, {19, NONE}, {26, NONE}, {29, NONE}, {36, NONE}, {-1, NONE},
            {LEAST, NONE}, {GREATEST, NONE}};
        for (int[] n : looks) {
            t.due("look " + n[0], n[1], t.x.look(n[0]));
        }
    }
}
