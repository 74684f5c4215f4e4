/** Promises 16 to 19: the likeliest end, tallies, the winner, dams. */
public final class WinnerTest {
    private static final Check check = new Check("WinnerTest");

    public static void main(String[] args) {
        likeliest();
        tally();
        winner();
        hangs();
        holds();
        freed();
        refusals();
        check.end();
    }

    private static void likeliest() {
        MarbleVotes x = Hills.made("m13012;.p.", 0, 1, 1, 1, 2, 1);
        check.due("of two troughs, the least", x.likeliest(0), 0);
        check.due("heavy: straight", x.likeliest(1), 1);
        check.due("lead: straight", x.likeliest(2), 1);
        x.set(1, 4);
        check.due("it sticks", x.likeliest(2), MarbleVotes.NONE);
        x = Hills.made("m23012;.p.;#..", 0, 1);
        check.due("as likely a trough as to stick", x.likeliest(0), 2);
        x.wet(true);
        check.due("it sticks more likely", x.likeliest(0), MarbleVotes.NONE);
        x = Hills.made("m23012;.p.;pp#", 0, 1);
        check.due("it sticks with a half, two troughs have a quarter", x.likeliest(0), MarbleVotes.NONE);
        check.due("likeliest(1)", x.likeliest(1), MarbleVotes.UNKNOWN);
        check.due("likeliest(-1)", x.likeliest(-1), MarbleVotes.UNKNOWN);
    }

    private static void tally() {
        MarbleVotes x = Hills.made("m140120;.p.#", 0, 0, 0, 1, 1, 1, 2, 2, 2, 3, 0, 0);
        check.due("tally(0)", x.tally(0), 3);
        check.due("tally(1)", x.tally(1), 1);
        check.due("tally(2)", x.tally(2), 1);
        check.due("tally(3)", x.tally(3), 0);
        x.set(3, 0);
        check.due("tally(0) without the dam", x.tally(0), 4);
        x.back(1);
        check.due("tally(0) without the one that is taken back", x.tally(0), 3);
        check.due("tally(4)", x.tally(4), MarbleVotes.UNKNOWN);
        check.due("tally(-1)", x.tally(-1), MarbleVotes.UNKNOWN);
    }

    private static void winner() {
        MarbleVotes x = Hills.made("m142113;....");
        check.due("without votes the least of all four", x.winner(0), 0);
        check.due("it hangs on none", x.winner(1), 0);
        x.vote(0, 3);
        check.due("one vote", x.winner(0), 3);
        x.vote(0, 1);
        check.due("of two parties, the least", x.winner(0), 1);
        x.vote(0, 0);
        x.vote(0, 0);
        check.due("two votes", x.winner(0), 2);
        x.vote(0, 2);
        check.due("two troughs of one party", x.winner(0), 1);
        x.set(1, 4);
        check.due("one of them sticks", x.winner(0), 2);
    }

    private static void hangs() {
        MarbleVotes x = Hills.made("m142113;....", 0, 0, 0, 0, 0, 1);
        check.due("each of two, as the least wins by one each", x.winner(1), 3);
        x.vote(0, 0);
        check.due("three of four: on none", x.winner(1), 0);
        x.vote(0, 2);
        check.due("three and two: on each of the three", x.winner(1), 1 + 2 + 8);
        x = Hills.made("m142113;....", 0, 0);
        check.due("without the only one the least of all four wins", x.winner(1), 1);
        x = Hills.made("m1201;..", 0, 0);
        check.due("which wins also with it", x.winner(1), 0);
        x.vote(0, 1);
        check.due("without the first, the second wins", x.winner(1), 1);
    }

    private static void holds() {
        MarbleVotes x = Hills.made("m33012;#p.;#.#;...");
        check.due("no votes", x.dams(0), 0);
        x.vote(2, 2);
        check.due("lead under nothing, at the lower dam", x.dams(0), 1 << 5);
        x.vote(0, 1);
        check.due("a marble to both sides", x.dams(0), 1 << 3 | 1 << 5);
        x.vote(1, 0);
        check.due("and the upper one", x.dams(0), 1 | 1 << 3 | 1 << 5);
        x.back(1);
        x.set(0, 0);
        check.due("the upper one is gone", x.dams(0), 1 << 3 | 1 << 5);
        x = Hills.made("m56001122;pppppp;pppppp;pppppp;pppppp;.....#", 0, 1);
        check.due("cell 29", x.dams(0), 1 << 29);
    }

    private static void freed() {
        MarbleVotes x = Hills.made("m33012;#p.;#.#;#..", 0, 0);
        check.due("one below the other: it holds", x.dams(0), 1);
        check.due("one below the other: to be freed", x.dams(1), 1 | 1 << 3 | 1 << 6);
        x.set(3, 3);
        check.due("leaning between them", x.dams(1), 1);
        x.set(3, 1);
        check.due("a peg between them", x.dams(1), 1 | 1 << 6);
        x.vote(2, 2);
        check.due("lead too", x.dams(1), 1 | 1 << 6 | 1 << 5);
        check.due("the signs are as they were", x.sign(0), 4);
        x.back(2);
        check.due("no votes", x.dams(1), 0);
    }

    private static void refusals() {
        MarbleVotes x = new MarbleVotes();
        check.due("tally(4) without a hill", x.tally(4), MarbleVotes.UNKNOWN);
        check.due("tally(0) without a hill", x.tally(0), MarbleVotes.STATE);
        check.due("likeliest(0) without a hill", x.likeliest(0), MarbleVotes.UNKNOWN);
        check.due("winner(2) without a hill", x.winner(2), MarbleVotes.OUTSIDE);
        check.due("winner(-1) without a hill", x.winner(-1), MarbleVotes.OUTSIDE);
        check.due("winner(1) without a hill", x.winner(1), MarbleVotes.STATE);
        check.due("dams(0) without a hill", x.dams(0), MarbleVotes.LOST);
        check.due("dams(1) without a hill", x.dams(1), MarbleVotes.LOST);
        x = Hills.made("m1201;##");
        check.due("dams(2)", x.dams(2), MarbleVotes.LOST);
        check.due("dams(-1)", x.dams(-1), MarbleVotes.LOST);
        check.due("dams(1)", x.dams(1), 0);
    }
}
