/** Promises 22 to 26: sheets. */
public final class SheetTest {
    private static final Check check = new Check("SheetTest");

    public static void main(String[] args) {
        sheet();
        lose();
        putCutsToTheLane();
        putRefusalsInOrder();
        cellRefusalsInOrder();
        copy();
        copyInEachLane();
        copyRefusalsInOrder();
        check.end();
    }

    private static void sheet() {
        MarbleVotes x = new MarbleVotes();
        for (int k = 0; k < 4; k++) {
            check.due("sheet", x.sheet(k, k % 3, 60), 1);
            check.due("its first cell", x.cell(k, 0, k % 3), 0);
            check.due("its last cell", x.cell(k, 59, k % 3), 0);
            check.due("none behind", x.cell(k, 60, k % 3), MarbleVotes.LOST);
        }
        x.put(0, 2, 5);
        check.due("a new row", x.sheet(0, 1, 3), 1);
        check.due("is of zeros", x.cell(0, 2, 1), 0);
        check.due("of its own length", x.put(0, 3, 0), Hills.INDEX);
        check.due("of its own lane", x.cell(0, 0, 0), MarbleVotes.LOST);
        check.due("of none", x.sheet(0, 1, 0), 1);
        check.due("it has no cell", x.put(0, 0, 0), Hills.INDEX);
        x.sheet(0, 1, 4);
        x.put(0, 1, 9);
        check.due("sheet(4, 3, 61)", x.sheet(4, 3, 61), MarbleVotes.UNKNOWN);
        check.due("sheet(-1, 0, 1)", x.sheet(-1, 0, 1), MarbleVotes.UNKNOWN);
        check.due("sheet(0, 3, -1)", x.sheet(0, 3, -1), MarbleVotes.OUTSIDE);
        check.due("sheet(0, -1, 1)", x.sheet(0, -1, 1), MarbleVotes.OUTSIDE);
        check.due("sheet(0, 0, 61)", x.sheet(0, 0, 61), MarbleVotes.OUTSIDE);
        check.due("fault() of a refused one", x.fault(), 0);
        check.due("sheet(0, 0, -1)", x.sheet(0, 0, -1), Hills.SIZE);
        check.due("fault()", x.fault(), 4);
        check.due("what it had is as it was", x.cell(0, 1, 1), 9);
        x.sheet(0, 0, -1);
        x.sheet(1, 0, 1);
        check.due("fault() of one that is done", x.fault(), 0);
    }

    private static void lose() {
        MarbleVotes x = new MarbleVotes();
        check.due("lose nothing", x.lose(3), 0);
        x.sheet(3, 0, 0);
        check.due("lose a row of none", x.lose(3), 1);
        check.due("lose it again", x.lose(3), 0);
        check.due("put in nothing", x.put(3, 0, 0), Hills.NULL);
        x.sheet(3, 0, 1);
        x.put(3, 7, 0);
        check.due("lose(4)", x.lose(4), MarbleVotes.UNKNOWN);
        check.due("lose(-1)", x.lose(-1), MarbleVotes.UNKNOWN);
        check.due("lose names no fault", x.fault(), 3);
    }

    private static void putCutsToTheLane() {
        int[] values = {0, 127, 128, 255, 256, -1, -129, 32767, 32768, 70001, -32769, Integer.MAX_VALUE,
            Integer.MIN_VALUE};
        MarbleVotes x = new MarbleVotes();
        for (int lane = 0; lane < 3; lane++) {
            x.sheet(lane, lane, 2);
        }
        for (int v : values) {
            for (int lane = 0; lane < 3; lane++) {
                check.due("put", x.put(lane, 1, v), 1);
            }
            check.due("byte of " + v, x.cell(0, 1, 0), (byte) v);
            check.due("short of " + v, x.cell(1, 1, 1), (short) v);
            check.due("int of " + v, x.cell(2, 1, 2), v);
            check.due("the cell ahead", x.cell(2, 0, 2), 0);
        }
    }

    private static void putRefusalsInOrder() {
        MarbleVotes x = new MarbleVotes();
        x.sheet(0, 0, 2);
        check.due("put(4, ..)", x.put(4, 9, 9), MarbleVotes.UNKNOWN);
        check.due("put(-1, ..)", x.put(-1, 9, 9), MarbleVotes.UNKNOWN);
        check.due("put in nothing", x.put(1, 9, 9), Hills.NULL);
        check.due("fault()", x.fault(), 1);
        check.due("put behind the end", x.put(0, 2, 9), Hills.INDEX);
        check.due("fault()", x.fault(), 3);
        check.due("put at -1", x.put(0, -1, 9), Hills.INDEX);
        check.due("put(4, ..)", x.put(4, 0, 0), MarbleVotes.UNKNOWN);
        check.due("fault() of a refused one", x.fault(), 0);
        x.put(0, 2, 9);
        check.due("put", x.put(0, 1, 9), 1);
        check.due("fault() of one that is done", x.fault(), 0);
    }

    private static void cellRefusalsInOrder() {
        MarbleVotes x = new MarbleVotes();
        x.sheet(0, 0, 2);
        int[][] calls = {{4, 9, 3, 0}, {-1, 0, 0, 0}, {0, 9, 3, 0}, {0, 9, -1, 0}, {1, 9, 2, 1}, {0, 9, 1, 2},
            {0, 2, 0, 3}, {0, -1, 0, 3}};
        for (int[] of : calls) {
            x.put(1, 0, 0);
            check.due("cell", x.cell(of[0], of[1], of[2]), MarbleVotes.LOST);
            check.due("fault() of cell(" + of[0] + ", " + of[1] + ", " + of[2] + ")", x.fault(), of[3]);
        }
        check.due("cell", x.cell(0, 1, 0), 0);
        check.due("fault() of one that is told", x.fault(), 0);
    }

    private static void rowIs(MarbleVotes x, int k, int lane, int... due) {
        for (int i = 0; i < due.length; i++) {
            check.due("cell " + i + " of sheet " + k, x.cell(k, i, lane), due[i]);
        }
    }

    private static void copy() {
        MarbleVotes x = new MarbleVotes();
        Hills.write(x, 0, Hills.INTS, 1, 2, 3, 4, 5);
        check.due("to the right over itself", x.copy(0, 0, 0, 1, 4), 4);
        rowIs(x, 0, Hills.INTS, 1, 1, 2, 3, 4);
        check.due("to the left over itself", x.copy(0, 1, 0, 0, 4), 4);
        rowIs(x, 0, Hills.INTS, 1, 2, 3, 4, 4);
        Hills.write(x, 1, Hills.INTS, 7, 8);
        check.due("to another one", x.copy(0, 2, 1, 1, 1), 1);
        rowIs(x, 1, Hills.INTS, 7, 3);
        rowIs(x, 0, Hills.INTS, 1, 2, 3, 4, 4);
        check.due("none at the ends", x.copy(0, 5, 1, 2, 0), 0);
        check.due("fault()", x.fault(), 0);
    }

    private static void copyInEachLane() {
        for (int lane = 0; lane < 3; lane++) {
            MarbleVotes x = new MarbleVotes();
            Hills.write(x, 0, lane, -1, 127, -128, 5);
            x.sheet(3, lane, 60);
            check.due("to the end", x.copy(0, 0, 3, 56, 4), 4);
            check.due("all over itself", x.copy(3, 0, 3, 0, 60), 60);
            check.due("a step to the left", x.copy(3, 1, 3, 0, 59), 59);
            int[] due = {0, -1, 127, -128, 5, 5};
            for (int i = 54; i < 60; i++) {
                check.due("cell " + i + " of lane " + lane, x.cell(3, i, lane), due[i - 54]);
            }
            check.due("from the end", x.copy(3, 55, 0, 1, 3), 3);
            rowIs(x, 0, lane, -1, -1, 127, -128);
        }
    }

    private static void copyRefusalsInOrder() {
        MarbleVotes x = new MarbleVotes();
        x.sheet(0, 0, 3);
        x.sheet(1, 0, 2);
        x.sheet(2, 2, 3);
        check.due("copy(4, ..)", x.copy(4, 9, 3, 9, 9), MarbleVotes.UNKNOWN);
        check.due("copy to 4", x.copy(3, 9, 4, 9, 9), MarbleVotes.UNKNOWN);
        check.due("copy(-1, ..)", x.copy(-1, 0, 0, 0, 0), MarbleVotes.UNKNOWN);
        check.due("copy to -1", x.copy(0, 0, -1, 0, 0), MarbleVotes.UNKNOWN);
        check.due("copy of nothing", x.copy(3, 9, 0, 9, 9), Hills.NULL);
        check.due("fault()", x.fault(), 1);
        check.due("copy to nothing", x.copy(0, 9, 3, 9, 9), Hills.NULL);
        check.due("copy of another lane", x.copy(0, 9, 2, 9, 9), Hills.CAST);
        check.due("fault()", x.fault(), 2);
        int[][] beyond = {{-1, 0, 1}, {0, -1, 1}, {0, 0, -1}, {0, 0, 3}, {2, 0, 2}, {0, 1, 2}, {4, 0, 0}, {0, 3, 0},
            {1, 0, Integer.MAX_VALUE}, {Integer.MAX_VALUE, 0, 1}, {0, Integer.MAX_VALUE, 1}};
        for (int[] of : beyond) {
            check.due("copy(0, " + of[0] + ", 1, " + of[1] + ", " + of[2] + ")", x.copy(0, of[0], 1, of[1], of[2]),
                Hills.INDEX);
            check.due("fault()", x.fault(), 3);
        }
        check.due("copy(4, ..)", x.copy(4, 0, 0, 0, 0), MarbleVotes.UNKNOWN);
        check.due("fault() of a refused one", x.fault(), 0);
    }
}
