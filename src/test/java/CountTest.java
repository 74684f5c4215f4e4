/** Promises 20 and 21: in how many ways what was counted came about; columns that are fair. */
public final class CountTest {
    private static final Check check = new Check("CountTest");

    public static void main(String[] args) {
        ways();
        waysOfManyEnds();
        waysOfNoSuchCount();
        waysRefusalsInOrder();
        fair();
        check.end();
    }

    private static void ways() {
        MarbleVotes x = Hills.made("m13012;#p.", 0, 1, 1, 1, 2, 2, 0, 0);
        Hills.write(x, 1, Hills.INTS, 1, 0, 2, 1, /* next */ 0, 1, 2, 1, /* and */ 0, 0, 3, 1);
        check.due("ways: the marble or the heavy one went left", x.ways(-1, 1, 2, 0), 2);
        check.due("where of the marble", x.ways(0, 1, 2, 0), 1 | 4);
        check.due("where of the heavy one", x.ways(1, 1, 2, 0), 1 | 4);
        check.due("where of the lead one", x.ways(2, 1, 2, 0), 4);
        check.due("where of the one at the dam", x.ways(3, 1, 2, 0), 1 << 6);
        check.due("ways: but the heavy one none goes straight", x.ways(-1, 1, 2, 4), 1);
        check.due("where of the marble", x.ways(0, 1, 2, 4), 4);
        check.due("where of the heavy one", x.ways(1, 1, 2, 4), 2);
        check.due("ways: all to the right", x.ways(-1, 1, 2, 8), 1);
        check.due("where of the heavy one", x.ways(1, 1, 2, 8), 4);
        x.set(2, 4);
        check.due("ways: the lead one sticks", x.ways(-1, 1, 2, 0), 0);
        check.due("where of the one at the dam", x.ways(3, 1, 2, 0), 0);
    }

    private static void waysOfManyEnds() {
        MarbleVotes x = Hills.made("m13012;.p.", 0, 1, 0, 1, 0, 1, 0, 1, 0, 1, 0, 1, 0, 1, 0, 1);
        Hills.write(x, 1, Hills.BYTES, 3, 0, 5, 0);
        check.due("three of eight", x.ways(-1, 1, 0, 0), 56);
        check.due("where of the last one", x.ways(7, 1, 0, 0), 5);
        String rows = ";pppppp;pppppp;pppppp;pppppp";
        x = Hills.made("m56001122" + rows + ";pppp#p", 1, 2, 1, 2, 1, 2, 1, 2, 1, 2, 1, 2, 1, 2, 1, 2);
        Hills.write(x, 1, Hills.SHORTS, 1, 1, 1, 1, 1, 1, 2);
        check.due("8! / 2 rows of all the ends", x.ways(-1, 1, 1, 0), 20160);
        check.due("where of one of them", x.ways(4, 1, 1, 0), 127);
        x.back(8);
        x.vote(1, 0);
        x.set(28, 1);
        x.wet(true);
        Hills.write(x, 1, Hills.SHORTS, 0, 0, 0, 0, 0, 1, 0);
        check.due("one draw of 32768 is a way", x.ways(-1, 1, 1, 0), 1);
        check.due("and shows where", x.ways(0, 1, 1, 0), 1 << 5);
        x.set(0, 3);
        x.set(28, 4);
        Hills.write(x, 1, Hills.SHORTS, 0, 0, 0, 0, 0, 0, 1);
        check.due("a few draws to a dam show it", x.ways(0, 1, 1, 0), 1 << 6);
        x.back(1);
        Hills.write(x, 1, Hills.SHORTS, 0, 0, 0, 0, 0, 0, 0);
        check.due("of no votes there is one row", x.ways(-1, 1, 1, 0), 1);
        x.vote(0, 0);
        check.due("one is not counted", x.ways(-1, 1, 1, 0), 0);
        check.due("where it is", x.ways(0, 1, 1, 0), 0);
    }

    private static void waysOfNoSuchCount() {
        MarbleVotes x = Hills.made("m13012;.p.", 0, 1, 0, 1);
        Hills.write(x, 1, Hills.INTS, 1, 0, 1, 0, -1, 3, 0, 0, Integer.MAX_VALUE, Integer.MAX_VALUE, 4, 0);
        check.due("one and one", x.ways(-1, 1, 2, 0), 2);
        check.due("one too few", x.ways(-1, 1, 2, 1), 0);
        Hills.write(x, 2, Hills.INTS, 0, 0, 1, 1);
        check.due("none can stick", x.ways(-1, 2, 2, 0), 0);
        x.vote(1, 1);
        Hills.write(x, 2, Hills.INTS, 1, 1, 1, 0);
        check.due("three votes", x.ways(-1, 2, 2, 0), 2);
        x.back(1);
        check.due("one below 0", x.ways(-1, 1, 2, 2), 0);
        check.due("one below 0, two in all", x.ways(-1, 1, 2, 4), 0);
        check.due("far too many", x.ways(-1, 1, 2, 8), 0);
        check.due("where, far too many", x.ways(1, 1, 2, 8), 0);
        check.due("no fault", x.fault(), 0);
    }

    private static void waysRefusalsInOrder() {
        MarbleVotes x = new MarbleVotes();
        check.due("ways(0, ..) without a hill", x.ways(0, 9, 9, 9), MarbleVotes.UNKNOWN);
        check.due("ways(-1, 4, ..) without a hill", x.ways(-1, 4, 9, 9), MarbleVotes.UNKNOWN);
        check.due("ways(-1, 0, 3, ..) without a hill", x.ways(-1, 0, 3, 9), MarbleVotes.OUTSIDE);
        check.due("ways without a hill", x.ways(-1, 0, 0, 9), MarbleVotes.STATE);
        x = Hills.made("m13012;.p.", 0, 1);
        x.sheet(1, Hills.BYTES, 5);
        check.due("ways(1, ..)", x.ways(1, 4, 3, 9), MarbleVotes.UNKNOWN);
        check.due("ways(-2, ..)", x.ways(-2, 1, 0, 0), MarbleVotes.UNKNOWN);
        check.due("ways(0, -1, ..)", x.ways(0, -1, 3, 9), MarbleVotes.UNKNOWN);
        check.due("ways of no lane", x.ways(0, 2, -1, 9), MarbleVotes.OUTSIDE);
        check.due("ways by nothing", x.ways(0, 2, 1, 9), Hills.NULL);
        check.due("fault()", x.fault(), 1);
        check.due("ways by another lane", x.ways(0, 1, 1, 9), Hills.CAST);
        check.due("fault()", x.fault(), 2);
        check.due("ways one cell beyond", x.ways(-1, 1, 0, 2), Hills.INDEX);
        check.due("fault()", x.fault(), 3);
        check.due("ways from -1", x.ways(-1, 1, 0, -1), Hills.INDEX);
        check.due("ways from far beyond", x.ways(-1, 1, 0, Integer.MAX_VALUE), Hills.INDEX);
        check.due("ways up to the end", x.ways(-1, 1, 0, 1), 0);
        check.due("fault()", x.fault(), 0);
    }

    private static void fair() {
        MarbleVotes x = new MarbleVotes();
        check.due("fair() without a hill", x.fair(), MarbleVotes.STATE);
        x = Hills.made("m140110;pppp");
        check.due("the middle ones", x.fair(), 15);
        x.wet(true);
        check.due("wet: none", x.fair(), 0);
        x = Hills.made("m140110;.#pp");
        check.due("the dam, the pegs", x.fair(), 14);
        x = Hills.made("m1210;..");
        check.due("each to its own party", x.fair(), 0);
        x = Hills.made("m1222;.p");
        check.due("one party", x.fair(), 3);
        x = Hills.made("m13012;.p.");
        check.due("one trough is left out", x.fair(), 0);
        x = Hills.made("m13011;.p.");
        check.due("two parties", x.fair(), 2);
        x.vote(1, 1);
        check.due("votes do not matter", x.fair(), 2);
    }
}
