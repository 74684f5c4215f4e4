/** Promises 13 to 15: the best start, a party's move, the answer to it. */
public final class MoveTest {
    private static final Check check = new Check("MoveTest");

    public static void main(String[] args) {
        start();
        moveOfOneCell();
        moveOfSeveral();
        moveOfAlikeVotes();
        moveRefusals();
        answer();
        answerRefusals();
        check.end();
    }

    private static void start() {
        MarbleVotes x = Hills.made("m140120;p.p#", 0, 3, 2, 3);
        check.due("start(0, 0): of two, the least", x.start(0, 0), 0);
        check.due("start(0, 1)", x.start(0, 1), 1);
        check.due("start(0, 2): none leads there", x.start(0, 2), 0);
        check.due("start(0, 3): it has no trough", x.start(0, 3), 0);
        check.due("start(1, 2): lead goes straight", x.start(1, 2), 2);
        x.set(1, 3);
        check.due("start(0, 2) by the cell that leans", x.start(0, 2), 1);
        check.due("start(1, 1): lead does not lean", x.start(1, 1), 1);
        x.wet(true);
        check.due("wet start(0, 1)", x.start(0, 1), 2);
        check.due("start(2, 0)", x.start(2, 0), MarbleVotes.UNKNOWN);
        check.due("start(-1, 0)", x.start(-1, 0), MarbleVotes.UNKNOWN);
        check.due("start(0, 4)", x.start(0, 4), MarbleVotes.UNKNOWN);
        check.due("start(0, -1)", x.start(0, -1), MarbleVotes.UNKNOWN);
    }

    private static void moveOfOneCell() {
        MarbleVotes x = Hills.made("m13012;.p.");
        check.due("move(0) without votes", x.move(0), MarbleVotes.NONE);
        x.vote(0, 1);
        check.due("move(0): it leans to the left", x.move(0), 12);
        check.due("move(1): nothing", x.move(1), 10);
        check.due("move(2): it leans to the right", x.move(2), 13);
        check.due("move(3): it has no trough", x.move(3), MarbleVotes.NONE);
        check.due("sign(1) is as it was", x.sign(1), 1);
        x.set(1, 2);
        check.due("move(0): it has all", x.move(0), MarbleVotes.NONE);
        check.due("move(2)", x.move(2), 13);
        x.set(1, 4);
        check.due("move(1) at a dam: first of two signs", x.move(1), 10);
        x.back(1);
        x.vote(2, 1);
        check.due("move(0): lead can't be led", x.move(0), MarbleVotes.NONE);
        check.due("move(1): nothing, peg, leaning are alike", x.move(1), 10);
        x = Hills.made("m1201;..", 0, 0);
        check.due("a peg is less than leaning", x.move(1), 3);
        x = Hills.made("m1201;..", 2, 0, 0, 0, 1, 1);
        check.due("a dam never gains", x.move(1), 3);
    }

    private static void moveOfSeveral() {
        MarbleVotes x = Hills.made("m240123;..p.;....", 0, 0, 0, 3);
        check.due("of cells 0 and 4, the least", x.move(1), 3);
        check.due("of cells 3 and 7, the least", x.move(2), 32);
        x = Hills.made("m23012;...;..#", 0, 0, 1, 2, 0, 2);
        check.due("the dam in front of two votes", x.move(2), 50);
        check.due("more by leading away two votes", x.move(1), 22);
        x.set(5, 0);
        check.due("two votes that lean", x.move(1), 22);
        x = Hills.made("m23012;.#.;#..", 0, 1);
        check.due("a vote at a dam does not come to the cell below", x.move(0), MarbleVotes.NONE);
        check.due("the dam is in the way", x.move(1), 10);
        check.due("one vote", x.move(0), MarbleVotes.NONE);
    }

    /** Votes of one kind above one column are each a vote of their own. */
    private static void moveOfAlikeVotes() {
        for (int kind = 0; kind < 2; kind++) {
            MarbleVotes x = Hills.made("m140101;....", kind, 0, kind, 2);
            String told = " of kind " + kind;
            // A peg leads a marble to troughs 1 and 3, both the party's, and is told ahead of leaning.
            int ofTwo = kind == 0 ? 21 : 22;
            check.due("one and one: the least cell," + told, x.move(1), 3);
            x.vote(kind, 2);
            check.due("one and two," + told, x.move(1), ofTwo);
            check.due("what is expected before it," + told, x.expects(0, 0), 3);
            x.vote(kind, 0);
            check.due("two and two: the least cell," + told, x.move(1), 3);
            check.due("answer by one who had all," + told, x.answer(1, 0), 0);
            x.vote(kind, 2);
            check.due("two and three," + told, x.move(1), ofTwo);
            check.due("answer sets it back," + told, x.answer(1, 0), 20);
        }
        MarbleVotes x = Hills.made("m140101;#.#.", 2, 0, 2, 2, 2, 2);
        check.due("two lead ones behind a dam", x.move(0), 20);
        x.vote(2, 0);
        check.due("two and two lead ones", x.move(0), 0);
        x = Hills.made("m140101;....", 0, 0, 1, 2, 0, 2);
        check.due("one, and two of two kinds", x.move(1), 22);
    }

    private static void moveRefusals() {
        MarbleVotes x = new MarbleVotes();
        check.due("move(4) without a hill", x.move(4), MarbleVotes.UNKNOWN);
        check.due("move(-1) without a hill", x.move(-1), MarbleVotes.UNKNOWN);
        check.due("move(3) without a hill", x.move(3), MarbleVotes.STATE);
    }

    private static void answer() {
        MarbleVotes x = Hills.made("m13012;.p.", 0, 1);
        check.due("move(0)", x.move(0), 12);
        check.due("answer(0, 2)", x.answer(0, 2), 13);
        check.due("answer(0, 1)", x.answer(0, 1), 10);
        check.due("answer(3, 2): the first has no move", x.answer(3, 2), 13);
        check.due("answer(0, 3): the second has none", x.answer(0, 3), MarbleVotes.NONE);
        check.due("sign(1) is as it was", x.sign(1), 1);
        x.set(1, 2);
        check.due("answer(0, 1): the first has all", x.answer(0, 1), 10);
        x = Hills.made("m1201;r.", 0, 0);
        check.due("answer(3, 1): neither has a move, cell 0 stays", x.answer(3, 1), MarbleVotes.NONE);
        check.due("answer(3, 0): as it is", x.answer(3, 0), 0);
        x = Hills.made("m23012;.l.;...", 0, 1);
        check.due("move(1)", x.move(1), 10);
        check.due("answer(1, 0): the same cell set back", x.answer(1, 0), 12);
        check.due("answer(1, 2): the upper cell again", x.answer(1, 2), 13);
        check.due("the votes are as they were", x.many(2), 1);
        check.due("the sign is as it was", x.sign(1), 2);
        x = Hills.made("m23012;...;..#", 2, 2, 0, 0);
        check.due("move(2) in the lower row", x.move(2), 50);
        check.due("answer(2, 1) by the upper row", x.answer(2, 1), 3);
        check.due("answer(2, 0) has none", x.answer(2, 0), MarbleVotes.NONE);
        x.back(1);
        x.vote(0, 2);
        check.due("answer(2, 1) by two votes in the same cell", x.answer(2, 1), 22);
        x = Hills.made("m23012;...;..#", 0, 2);
        check.due("move(1) leads it round the dam", x.move(1), 22);
        check.due("answer(1, 2) leads it on", x.answer(1, 2), 43);
        check.due("the sign is as it was", x.sign(2), 0);
    }

    private static void answerRefusals() {
        MarbleVotes x = new MarbleVotes();
        check.due("answer(4, 4)", x.answer(4, 4), MarbleVotes.UNKNOWN);
        check.due("answer(0, 4)", x.answer(0, 4), MarbleVotes.UNKNOWN);
        check.due("answer(-1, 0)", x.answer(-1, 0), MarbleVotes.UNKNOWN);
        check.due("answer(0, -1)", x.answer(0, -1), MarbleVotes.UNKNOWN);
        check.due("answer(2, 2)", x.answer(2, 2), MarbleVotes.OUTSIDE);
        check.due("answer(2, 1)", x.answer(2, 1), MarbleVotes.STATE);
    }
}
