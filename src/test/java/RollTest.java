/** Promises 10 to 12: rolls, chances, what a party expects. */
public final class RollTest {
    private static final Check check = new Check("RollTest");

    public static void main(String[] args) {
        rollByOneDraw();
        rollAtTheEdges();
        rollDownRows();
        rollTellsTheFirstDraw();
        rollRefusalsInOrder();
        chanceOfOneRow();
        chanceDownRows();
        chanceRefusals();
        expects();
        check.end();
    }

    /** The sides that the eight draws lead to, from the middle column. */
    private static void rollByOneDraw() {
        String[] dry = {"00002222", "00111122", "11111111"};
        String[] wet = {"00000222", "00011112", "11111111"};
        MarbleVotes x = Hills.made("m13012;.p.", 0, 1, 1, 1, 2, 1);
        Hills.write(x, 1, Hills.BYTES, 0, 1, 2, 3, 4, 5, 6, 7);
        for (int kind = 0; kind < 3; kind++) {
            for (int draw = 0; draw < 8; draw++) {
                x.wet(false);
                check.due("dry roll of kind " + kind + " by " + draw,
                    x.roll(kind, 1, Hills.BYTES, draw), dry[kind].charAt(draw) - '0');
                x.wet(true);
                check.due("wet roll of kind " + kind + " by " + draw,
                    x.roll(kind, 1, Hills.BYTES, draw), wet[kind].charAt(draw) - '0');
            }
        }
    }

    /** Two columns: each is at an edge. */
    private static void rollAtTheEdges() {
        String[][] dry = {{"00001111", "00000011", "00000000"}, {"00001111", "00111111", "11111111"}};
        String[][] wet = {{"00000111", "00000001", "00000000"}, {"00000111", "00011111", "11111111"}};
        for (int column = 0; column < 2; column++) {
            MarbleVotes x = Hills.made("m1201;pp", 0, column, 1, column, 2, column);
            Hills.write(x, 1, Hills.BYTES, 0, 1, 2, 3, 4, 5, 6, 7);
            for (int kind = 0; kind < 3; kind++) {
                for (int draw = 0; draw < 8; draw++) {
                    x.wet(false);
                    check.due("dry roll of kind " + kind + " from " + column + " by " + draw,
                        x.roll(kind, 1, Hills.BYTES, draw), dry[column][kind].charAt(draw) - '0');
                    x.wet(true);
                    check.due("wet roll of kind " + kind + " from " + column + " by " + draw,
                        x.roll(kind, 1, Hills.BYTES, draw), wet[column][kind].charAt(draw) - '0');
                }
            }
        }
    }

    /** Of a draw that is outside and one that is not there, the one that is come to. */
    private static void rollTellsTheFirstDraw() {
        MarbleVotes x = Hills.made("m33012;ppp;.p.;ppp", 2, 0, 2, 1);
        for (int lane = 0; lane < 3; lane++) {
            Hills.write(x, 1, lane, 3, 8);
            check.due("the second draw is outside", x.roll(0, 1, lane, 0), MarbleVotes.OUTSIDE);
            check.due("fault()", x.fault(), 0);
            check.due("outside, and no second draw is there", x.roll(0, 1, lane, 1), MarbleVotes.OUTSIDE);
            check.due("fault()", x.fault(), 0);
            check.due("outside, and no third draw is there", x.roll(1, 1, lane, 0), MarbleVotes.OUTSIDE);
            Hills.write(x, 1, lane, 3, 7);
            check.due("two draws for two pegs", x.roll(0, 1, lane, 0), 0);
            check.due("two draws for three pegs", x.roll(1, 1, lane, 0), Hills.INDEX);
            check.due("fault()", x.fault(), 3);
            x.set(4, 4);
            check.due("one draw, the second peg is a dam", x.roll(1, 1, lane, 0), MarbleVotes.NONE);
            check.due("the last draw, the next peg is a dam", x.roll(1, 1, lane, 1), MarbleVotes.NONE);
            check.due("none is there for the first peg", x.roll(1, 1, lane, 2), Hills.INDEX);
            x.set(4, 1);
        }
        // What comes to a cell is cut to its lane: so is a draw.
        int[] cut = {256 + 5, 65536 + 5, 5};
        for (int lane = 0; lane < 3; lane++) {
            Hills.write(x, 1, lane, cut[lane], cut[lane]);
            check.due("draws that are cut", x.roll(0, 1, lane, 0), 0);
            Hills.write(x, 1, lane, cut[lane], -1);
            check.due("a draw of -1", x.roll(0, 1, lane, 0), MarbleVotes.OUTSIDE);
            Hills.write(x, 1, lane, Integer.MIN_VALUE + 8, Integer.MAX_VALUE);
            check.due("a draw far off", x.roll(0, 1, lane, 0), MarbleVotes.OUTSIDE);
        }
    }

    private static void rollDownRows() {
        MarbleVotes x = Hills.made("m33012;plp;r#p;.pl", 0, 0, 0, 1, 0, 2, 2, 1, 2, 0);
        Hills.write(x, 1, Hills.INTS, 7, 0, 7, 9);
        check.due("over the edge: straight, leans to the right, right", x.roll(0, 1, Hills.INTS, 1), 2);
        check.due("to the right onto a dam", x.roll(0, 1, Hills.INTS, 0), MarbleVotes.NONE);
        check.due("leans to the left, to the right: one draw", x.roll(1, 1, Hills.INTS, 1), 0);
        check.due("that draw outside", x.roll(1, 1, Hills.INTS, 3), MarbleVotes.OUTSIDE);
        check.due("right at the edge, then a draw outside", x.roll(2, 1, Hills.INTS, 2), MarbleVotes.OUTSIDE);
        Hills.write(x, 1, Hills.INTS, 7, 6, 0);
        check.due("right at the edge twice, then it leans", x.roll(2, 1, Hills.INTS, 0), 1);
        check.due("lead does not lean, sticks at the dam", x.roll(3, 1, Hills.INTS, 3), MarbleVotes.NONE);
        check.due("lead draws at a peg", x.roll(4, 1, Hills.INTS, 3), Hills.INDEX);
        check.due("lead goes straight by each draw", x.roll(4, 1, Hills.INTS, 0), 0);
        x = Hills.made("m1201;lr", 0, 0, 0, 1, 1, 0, 1, 1);
        x.sheet(1, Hills.BYTES, 0);
        for (int v = 0; v < 4; v++) {
            check.due("leaning over the edge", x.roll(v, 1, Hills.BYTES, 0), v % 2);
        }
        x = Hills.made("m13012;.l.", 1, 1, 2, 1);
        x.sheet(1, Hills.BYTES, 0);
        check.due("heavy leans to the left", x.roll(0, 1, Hills.BYTES, 0), 0);
        check.due("lead does not", x.roll(1, 1, Hills.BYTES, 0), 1);
        x.set(1, 3);
        check.due("heavy leans to the right", x.roll(0, 1, Hills.BYTES, 0), 2);
        check.due("lead does not", x.roll(1, 1, Hills.BYTES, 0), 1);
        x.set(1, 4);
        check.due("at a dam it sticks", x.roll(1, 1, Hills.BYTES, 0), MarbleVotes.NONE);
    }

    private static void rollRefusalsInOrder() {
        MarbleVotes x = Hills.made("m23012;ppp;ppp", 0, 1);
        Hills.write(x, 1, Hills.SHORTS, 0, 8, -1, 3);
        check.due("roll(1, 9, 9, 9)", x.roll(1, 9, 9, 9), MarbleVotes.UNKNOWN);
        check.due("roll(-1, 1, 1, 0)", x.roll(-1, 1, 1, 0), MarbleVotes.UNKNOWN);
        check.due("roll(0, 4, 9, 9)", x.roll(0, 4, 9, 9), MarbleVotes.UNKNOWN);
        check.due("roll(0, -1, 9, 9)", x.roll(0, -1, 9, 9), MarbleVotes.UNKNOWN);
        check.due("roll(0, 3, 3, 9)", x.roll(0, 3, 3, 9), MarbleVotes.OUTSIDE);
        check.due("roll(0, 3, -1, 9)", x.roll(0, 3, -1, 9), MarbleVotes.OUTSIDE);
        check.due("by nothing", x.roll(0, 3, 1, 9), Hills.NULL);
        check.due("fault()", x.fault(), 1);
        check.due("by another lane", x.roll(0, 1, 2, 9), Hills.CAST);
        check.due("fault()", x.fault(), 2);
        check.due("from behind the end", x.roll(0, 1, 1, 5), Hills.INDEX);
        check.due("fault()", x.fault(), 3);
        check.due("from the end", x.roll(0, 1, 1, 4), Hills.INDEX);
        check.due("from -1", x.roll(0, 1, 1, -1), Hills.INDEX);
        check.due("a draw of 8", x.roll(0, 1, 1, 0), MarbleVotes.OUTSIDE);
        check.due("fault() of a refused one", x.fault(), 0);
        check.due("a draw of -1", x.roll(0, 1, 1, 2), MarbleVotes.OUTSIDE);
        check.due("a draw, then none is there", x.roll(0, 1, 1, 3), Hills.INDEX);
        check.due("fault()", x.fault(), 3);
        x.set(4, 4);
        x.set(3, 0);
        check.due("a draw that is not needed may be 8", x.roll(0, 1, 1, 0), 0);
        check.due("fault()", x.fault(), 0);
        x.set(1, 4);
        check.due("where none is needed, from the end", x.roll(0, 1, 1, 4), MarbleVotes.NONE);
        check.due("where none is needed, from behind the end", x.roll(0, 1, 1, 5), Hills.INDEX);
    }

    private static void chanceIs(MarbleVotes x, int v, int t, long upper, long lower) {
        check.due("chance(" + v + ", " + t + ", 0)", x.chance(v, t, 0), upper);
        check.due("chance(" + v + ", " + t + ", 1)", x.chance(v, t, 1), lower);
    }

    private static void chanceOfOneRow() {
        MarbleVotes x = Hills.made("m13012;.p.", 0, 1, 1, 1, 2, 1);
        chanceIs(x, 0, 0, 1, 2);
        chanceIs(x, 0, 1, 0, 1);
        chanceIs(x, 0, 2, 1, 2);
        chanceIs(x, 0, -1, 0, 1);
        chanceIs(x, 1, 0, 1, 4);
        chanceIs(x, 1, 1, 1, 2);
        chanceIs(x, 2, 1, 1, 1);
        x.wet(true);
        chanceIs(x, 0, 0, 5, 8);
        chanceIs(x, 0, 2, 3, 8);
        chanceIs(x, 1, 0, 3, 8);
        chanceIs(x, 1, 1, 1, 2);
        chanceIs(x, 1, 2, 1, 8);
        chanceIs(x, 2, 1, 1, 1);
        x.set(1, 4);
        chanceIs(x, 1, -1, 1, 1);
        chanceIs(x, 1, 1, 0, 1);
    }

    private static void chanceDownRows() {
        String pegs = ";pppppp;pppppp;pppppp;pppppp;pppppp";
        MarbleVotes x = Hills.made("m56001122" + pegs, 0, 2, 1, 5, 0, 0);
        chanceIs(x, 0, 0, 5, 32);
        chanceIs(x, 1, 0, 1, 1024);
        chanceIs(x, 1, 1, 11, 1024);
        chanceIs(x, 2, 5, 1, 32);
        x.wet(true);
        chanceIs(x, 2, 5, 243, 32768);
        x.vote(1, 0);
        chanceIs(x, 3, 5, 1, 32768);
        x.set(0, 4);
        chanceIs(x, 2, -1, 1, 1);
        x.set(0, 1);
        x.set(6, 4);
        chanceIs(x, 2, -1, 5, 8);
    }

    private static void chanceRefusals() {
        MarbleVotes x = Hills.made("m13012;.p.", 0, 1);
        check.due("chance(1, 0, 0)", x.chance(1, 0, 0), MarbleVotes.LOST);
        check.due("chance(-1, 0, 0)", x.chance(-1, 0, 0), MarbleVotes.LOST);
        check.due("chance(0, 3, 0)", x.chance(0, 3, 0), MarbleVotes.LOST);
        check.due("chance(0, -2, 0)", x.chance(0, -2, 0), MarbleVotes.LOST);
        check.due("chance(0, 0, 2)", x.chance(0, 0, 2), MarbleVotes.LOST);
        check.due("chance(0, 0, -1)", x.chance(0, 0, -1), MarbleVotes.LOST);
        x.put(3, 0, 0);
        check.due("chance names no fault", x.chance(1, 0, 0), MarbleVotes.LOST);
        check.due("fault() is the one ahead of it", x.fault(), 1);
    }

    private static void expects() {
        MarbleVotes x = new MarbleVotes();
        check.due("expects(0, 0) without a hill", x.expects(0, 0), MarbleVotes.LOST);
        x = Hills.made("m140101;pp.p");
        check.due("expects(0, 0) without votes", x.expects(0, 0), 0);
        check.due("expects(0, 1) without votes", x.expects(0, 1), 1);
        x.vote(0, 1);
        x.vote(0, 1);
        x.vote(0, 0);
        check.due("expects(0, 0)", x.expects(0, 0), 5);
        check.due("expects(0, 1)", x.expects(0, 1), 2);
        check.due("expects(1, 0)", x.expects(1, 0), 1);
        check.due("expects(1, 1)", x.expects(1, 1), 2);
        x.vote(1, 3);
        check.due("heavy too: expects(1, 0)", x.expects(1, 0), 5);
        check.due("heavy too: expects(1, 1)", x.expects(1, 1), 4);
        check.due("no trough: expects(2, 0)", x.expects(2, 0), 0);
        check.due("no trough: expects(3, 1)", x.expects(3, 1), 1);
        check.due("expects(4, 0)", x.expects(4, 0), MarbleVotes.LOST);
        check.due("expects(-1, 0)", x.expects(-1, 0), MarbleVotes.LOST);
        check.due("expects(0, 2)", x.expects(0, 2), MarbleVotes.LOST);
        check.due("expects(0, -1)", x.expects(0, -1), MarbleVotes.LOST);
    }
}
