import java.util.ArrayList;
import java.util.List;

/** Promises 1 to 32 at their limits: the least and the greatest hill, no votes and eight, the 512th call. */
public final class LimitsTest {
    private static final String GREATEST = "m56012301;......;......;......;......;......";
    private static final String DAMS = "m56012301;######;######;######;######;######";
    private static final String PEGS = "m56012301;pppppp;pppppp;pppppp;pppppp;pppppp";
    private static final Check check = new Check("LimitsTest");

    public static void main(String[] args) {
        greatestHill();
        greatestHillOfDams();
        greatestHillOfPegs();
        leastHill();
        farCells();
        noVotes();
        nothingIsLeftOfAnotherHill();
        nothingIsLeftOfVotes();
        call512();
        check.end();
    }

    private static MarbleVotes withVotes(String text, int many, int kind, int column) {
        MarbleVotes x = Hills.made(text);
        for (int v = 0; v < many; v++) {
            check.due("vote " + v, x.vote(kind, column), v);
        }
        return x;
    }

    private static void greatestHill() {
        MarbleVotes x = withVotes(GREATEST, 8, 0, 5);
        check.due("no ninth vote", x.vote(0, 5), MarbleVotes.FULL);
        check.due("chance(7, 5, 0)", x.chance(7, 5, 0), 1);
        check.due("expects(1, 0)", x.expects(1, 0), 8);
        check.due("expects(1, 1)", x.expects(1, 1), 1);
        check.due("start(7, 1)", x.start(7, 1), 1);
        check.due("start(7, 3)", x.start(7, 3), 3);
        check.due("move(0)", x.move(0), 52);
        check.due("move(1)", x.move(1), MarbleVotes.NONE);
        check.due("move(3)", x.move(3), MarbleVotes.NONE);
        check.due("answer(0, 1)", x.answer(0, 1), 50);
        check.due("answer(1, 0)", x.answer(1, 0), 52);
        check.due("likeliest(7)", x.likeliest(7), 5);
        check.due("tally(1)", x.tally(1), 8);
        check.due("winner(0)", x.winner(0), 1);
        check.due("winner(1)", x.winner(1), 0);
        x.set(29, 4);
        check.due("the last cell holds", x.dams(0), 1 << 29);
        check.due("the last cell is to be freed", x.dams(1), 1 << 29);
        check.due("move(1) round the last cell", x.move(1), 290);
        check.due("fair() is the column where all stick", x.fair(), 32);
        x.back(7);
        x.vote(2, 4);
        x.vote(2, 4);
        check.due("all that win hang on each", x.winner(1), 0);
        Hills.write(x, 2, Hills.BYTES, 0, 0, 0, 0, 2, 0, 1);
        check.due("ways", x.ways(-1, 2, Hills.BYTES, 0), 1);
        check.due("where", x.ways(0, 2, Hills.BYTES, 0), 64);
        check.due("where", x.ways(2, 2, Hills.BYTES, 0), 16);
    }

    private static void greatestHillOfDams() {
        MarbleVotes x = Hills.made(DAMS, 0, 0, 1, 1, 2, 2, 0, 3, 1, 4, 2, 5, 0, 0, 1, 1);
        check.due("all of the first row hold", x.dams(0), 63);
        check.due("all are to be freed", x.dams(1), (1 << 30) - 1);
        check.due("fair()", x.fair(), 63);
        check.due("winner(0)", x.winner(0), 0);
        check.due("winner(1)", x.winner(1), 0);
        Hills.write(x, 2, Hills.BYTES, 0, 0, 0, 0, 0, 0, 8, 7);
        check.due("all of the eight stick", x.ways(-1, 2, Hills.BYTES, 0), 1);
        check.due("where the last one is", x.ways(7, 2, Hills.BYTES, 0), 64);
        check.due("seven can't", x.ways(-1, 2, Hills.BYTES, 1), 0);
        for (int v = 0; v < 8; v++) {
            check.due("likeliest", x.likeliest(v), MarbleVotes.NONE);
            check.due("chance that it sticks", x.chance(v, -1, 0), 1);
            check.due("start", x.start(v, 1), 0);
        }
        for (int p = 0; p < 4; p++) {
            check.due("expects", x.expects(p, 0), 0);
            check.due("tally", x.tally(p), 0);
            check.due("no cell alone helps", x.move(p), MarbleVotes.NONE);
            check.due("answer", x.answer(p, (p + 1) % 4), MarbleVotes.NONE);
        }
    }

    private static void greatestHillOfPegs() {
        MarbleVotes x = withVotes(PEGS, 8, 0, 5);
        check.due("chance(7, 5, 0): as many steps to the right, or one more", x.chance(7, 5, 0), 5);
        check.due("chance(7, 5, 1)", x.chance(7, 5, 1), 16);
        check.due("chance(7, 0, 0): five steps to the left", x.chance(7, 0, 0), 1);
        check.due("chance(7, 0, 1)", x.chance(7, 0, 1), 32);
        check.due("expects(3, 0): eight of 5 in 32", x.expects(3, 0), 5);
        check.due("expects(3, 1)", x.expects(3, 1), 4);
        x.wet(true);
        check.due("wet chance(0, 0, 0)", x.chance(0, 0, 0), 3125);
        check.due("wet chance(0, 0, 1)", x.chance(0, 0, 1), 32768);
        Hills.write(x, 2, Hills.INTS, 5, 5, 5, 5, 5, 8, 4, 4, 4, 4, 4);
        check.due("five draws to the right, a sixth that is not needed", x.roll(0, 2, Hills.INTS, 0), 5);
        check.due("the fifth is 8", x.roll(0, 2, Hills.INTS, 1), MarbleVotes.OUTSIDE);
        check.due("five draws to the left, up to the end", x.roll(0, 2, Hills.INTS, 6), 0);
        check.due("four draws are there", x.roll(0, 2, Hills.INTS, 7), Hills.INDEX);
        check.due("none is there", x.roll(0, 2, Hills.INTS, 11), Hills.INDEX);
    }

    private static void leastHill() {
        MarbleVotes x = Hills.made("m1230;p.", 0, 0, 1, 1, 2, 0);
        check.due("many(0)", x.many(0), 2);
        check.due("many(1)", x.many(1), 2);
        check.due("chance(0, 0, 1)", x.chance(0, 0, 1), 2);
        check.due("chance(1, 1, 0)", x.chance(1, 1, 0), 1);
        check.due("chance(2, 0, 0)", x.chance(2, 0, 0), 1);
        check.due("expects(3, 0)", x.expects(3, 0), 3);
        check.due("expects(3, 1)", x.expects(3, 1), 2);
        check.due("start(0, 3)", x.start(0, 3), 0);
        check.due("start(0, 0)", x.start(0, 0), 1);
        check.due("move(0)", x.move(0), 3);
        check.due("move(3)", x.move(3), 12);
        check.due("answer(0, 3)", x.answer(0, 3), 0);
        check.due("likeliest(0)", x.likeliest(0), 0);
        check.due("tally(3)", x.tally(3), 2);
        check.due("winner(0)", x.winner(0), 3);
        check.due("winner(1)", x.winner(1), 1 | 4);
        check.due("fair()", x.fair(), 1);
        x.set(1, 4);
        check.due("dams(0)", x.dams(0), 2);
        check.due("dams(1)", x.dams(1), 2);
        Hills.write(x, 1, Hills.BYTES, 1, 1, 1);
        check.due("ways", x.ways(-1, 1, Hills.BYTES, 0), 1);
        check.due("ways one cell beyond", x.ways(-1, 1, Hills.BYTES, 1), Hills.INDEX);
    }

    /** Ten times a cell and a sign, where the cell has two digits. */
    private static void farCells() {
        MarbleVotes x = Hills.made("m440123;....;....;.###;...#", 0, 2);
        check.due("move(2) opens the way", x.move(2), 100);
        check.due("move(3) as it is", x.move(3), MarbleVotes.NONE);
        check.due("answer(2, 3) behind it", x.answer(2, 3), 143);
        check.due("the dam is there still", x.sign(10), 4);
        x = Hills.made("m56012301;......;......;......;......;.....p", 2, 5);
        x.set(29, 4);
        check.due("move of the last cell", x.move(1), 290);
        check.due("answer behind it", x.answer(1, 0), MarbleVotes.NONE);
        x = Hills.made("m56012301;######;######;######;######;######", 0, 5);
        for (int c = 5; c < 29; c += 6) {
            x.set(c, 0);
        }
        check.due("move to the side from the last cell", x.move(0), 292);
        check.due("answer sets it back", x.answer(0, 1), 290);
    }

    private static void noVotes() {
        for (String text : new String[] {"m1203;..", "m1230;p#", GREATEST, DAMS, PEGS}) {
            MarbleVotes x = Hills.made(text);
            for (int p = 0; p < 4; p++) {
                check.due("expects", x.expects(p, 0), 0);
                check.due("lower number", x.expects(p, 1), 1);
                check.due("move", x.move(p), MarbleVotes.NONE);
                check.due("answer", x.answer(p, 3 - p), MarbleVotes.NONE);
                check.due("tally", x.tally(p), 0);
            }
            check.due("winner(0)", x.winner(0), 0);
            check.due("winner(1)", x.winner(1), 0);
            check.due("dams(0)", x.dams(0), 0);
            check.due("dams(1)", x.dams(1), 0);
            check.due("back(0)", x.back(0), 0);
            check.due("likeliest(0)", x.likeliest(0), MarbleVotes.UNKNOWN);
            check.due("start(0, 0)", x.start(0, 0), MarbleVotes.UNKNOWN);
            x.sheet(2, Hills.INTS, 8);
            check.due("ways of zeros", x.ways(-1, 2, Hills.INTS, 0), 1);
            check.due("where of none", x.ways(0, 2, Hills.INTS, 0), MarbleVotes.UNKNOWN);
            x.put(2, 1, 1);
            check.due("ways of one", x.ways(-1, 2, Hills.INTS, 0), 0);
        }
    }

    /** All that the hill and its votes answer; some 300 calls at most. */
    private static List<Long> answersOf(MarbleVotes x) {
        List<Long> all = State.of(x);
        for (int v = 0; v < x.many(2); v++) {
            all.add((long) x.likeliest(v));
            for (int t = -1; t < x.many(1); t++) {
                all.add(x.chance(v, t, 0));
                all.add(x.chance(v, t, 1));
            }
        }
        for (int p = 0; p < 4; p++) {
            all.add(x.expects(p, 0));
            all.add((long) x.start(0, p));
            all.add((long) x.move(p));
            all.add((long) x.answer(p, (p + 1) % 4));
            all.add((long) x.tally(p));
        }
        for (int what = 0; what < 2; what++) {
            all.add((long) x.winner(what));
            all.add(x.dams(what));
        }
        for (int v = -1; v < x.many(2); v++) {
            all.add((long) x.ways(v, 1, Hills.BYTES, 0));
            all.add((long) x.ways(v, 1, Hills.BYTES, 7));
        }
        all.add((long) x.fair());
        return all;
    }

    private static void letGo(MarbleVotes x) {
        x.vote(0, 0);
        x.vote(1, 1);
        x.vote(0, 1);
    }

    private static void nothingIsLeftOfAnotherHill() {
        String[] texts = {"m1230;p.", "m1201;#p", "m23012;.p#;plr", PEGS, "m340120;pppp;l#rp;pppp", "m1222;..", DAMS};
        for (String text : texts) {
            MarbleVotes fresh = new MarbleVotes();
            countInto(fresh);
            Hills.read(fresh, text);
            letGo(fresh);
            MarbleVotes used = new MarbleVotes();
            countInto(used);
            Hills.read(used, "m56321032;pppppp;pppppp;pppppp;pppppp;pppppp");
            used.wet(true);
            for (int column = 0; column < 6; column++) {
                used.vote(column % 2, column);
            }
            used.ways(5, 1, Hills.BYTES, 0);
            used.answer(2, 3);
            used.fair();
            used.winner(1);
            Hills.read(used, text);
            letGo(used);
            check.holds("nothing is left of another hill in " + text, answersOf(used).equals(answersOf(fresh)));
        }
    }

    private static void countInto(MarbleVotes x) {
        Hills.write(x, 1, Hills.BYTES, 1, 1, 1, 0, 1, 1, 1, 2, 1, 0, 0, 0, 0, 0, 0);
    }

    private static void nothingIsLeftOfVotes() {
        MarbleVotes fresh = Hills.made("m23012;.p#;plr");
        countInto(fresh);
        letGo(fresh);
        MarbleVotes used = Hills.made("m23012;.p#;plr");
        countInto(used);
        for (int v = 0; v < 8; v++) {
            used.vote(2 - v % 3, v % 3);
        }
        used.winner(1);
        used.ways(7, 1, Hills.BYTES, 0);
        used.back(8);
        letGo(used);
        check.holds("nothing is left of votes that are taken back", answersOf(used).equals(answersOf(fresh)));
    }

    private static void call512() {
        MarbleVotes x = new MarbleVotes();
        Hills.writeText(x, 0, Hills.BYTES, "m1230;p.");
        x.hill(0, Hills.BYTES, 0, 8);
        x.vote(2, 1);
        int trace = 0;
        for (int call = 12; call <= 511; call++) {
            check.due("call " + call, x.weigh(0), 60);
            trace = 31 * trace + 5;
        }
        check.due("call 512", x.trace(), trace);
    }
}
