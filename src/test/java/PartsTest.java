/** Promises 27 to 32: bodies and their trace, kinds, faults, how many. */
public final class PartsTest {
    private static final Check check = new Check("PartsTest");

    public static void main(String[] args) {
        tell();
        weigh();
        traceWraps();
        as();
        fault();
        many();
        check.end();
    }

    private static int traceOf(int... bodies) {
        int trace = 0;
        for (int body : bodies) {
            trace = 31 * trace + body;
        }
        return trace;
    }

    private static MarbleVotes votes() {
        return Hills.made("m140120;....", 0, 3, 1, 2, 2, 1, 1, 0);
    }

    private static void tell() {
        int[] told = {3, 102, 102, 100};
        int[] traces = {traceOf(1), traceOf(2, 1), traceOf(3, 2, 1, 1), traceOf(2, 1)};
        for (int v = 0; v < 4; v++) {
            MarbleVotes x = votes();
            check.due("tell(" + v + ")", x.tell(v), told[v]);
            check.due("its trace", x.trace(), traces[v]);
            check.due("tell(4)", x.tell(4), MarbleVotes.UNKNOWN);
            check.due("tell(-1)", x.tell(-1), MarbleVotes.UNKNOWN);
            check.due("a refused one leaves no trace", x.trace(), traces[v]);
        }
    }

    private static void weigh() {
        int[] weighed = {0, 1, 60, 3};
        int[] bodies = {4, 4, 5, 4};
        for (int v = 0; v < 4; v++) {
            MarbleVotes x = votes();
            check.due("weigh(" + v + ")", x.weigh(v), weighed[v]);
            check.due("its trace", x.trace(), bodies[v]);
            check.due("weigh(4)", x.weigh(4), MarbleVotes.UNKNOWN);
            check.due("weigh(-1)", x.weigh(-1), MarbleVotes.UNKNOWN);
            check.due("a refused one leaves no trace", x.trace(), bodies[v]);
        }
    }

    private static void traceWraps() {
        MarbleVotes x = votes();
        int trace = 0;
        for (int k = 0; k < 20; k++) {
            x.weigh(2);
            trace = 31 * trace + 5;
            check.due("trace() after " + k, x.trace(), trace);
        }
        check.due("trace() changes nothing", x.trace(), trace);
        x.as(2, 0);
        x.ofVote(2, 2);
        check.due("trace()", x.trace(), trace);
    }

    private static void as() {
        MarbleVotes x = votes();
        for (int v = 0; v < 3; v++) {
            for (int kind = 0; kind < 3; kind++) {
                boolean is = kind <= v;
                check.due("as(" + v + ", " + kind + ")", x.as(v, kind), is ? 1 : Hills.CAST);
                check.due("its fault()", x.fault(), is ? 0 : 2);
            }
        }
        check.due("as(4, 3)", x.as(4, 3), MarbleVotes.UNKNOWN);
        check.due("as(-1, 0)", x.as(-1, 0), MarbleVotes.UNKNOWN);
        x.as(0, 2);
        check.due("as(0, 3)", x.as(0, 3), MarbleVotes.OUTSIDE);
        check.due("fault() of a refused one", x.fault(), 0);
        check.due("as(0, -1)", x.as(0, -1), MarbleVotes.OUTSIDE);
        check.due("it is of its kind still", x.ofVote(2, 0), 2);
    }

    /** Calls that name no FAULTS leave it; calls that name one make it anew. */
    private static void fault() {
        MarbleVotes x = votes();
        x.put(3, 0, 0);
        x.sign(99);
        x.set(99, 0);
        x.party(99);
        x.wet(true);
        x.vote(9, 9);
        x.ofVote(9, 9);
        x.back(99);
        x.chance(9, 9, 9);
        x.expects(9, 9);
        x.start(9, 9);
        x.move(9);
        x.answer(9, 9);
        x.likeliest(9);
        x.tally(9);
        x.winner(9);
        x.dams(9);
        x.fair();
        x.lose(3);
        x.tell(0);
        x.weigh(0);
        x.trace();
        x.many(0);
        check.due("fault() of the latest call that names one", x.fault(), 1);
        check.due("fault() again", x.fault(), 1);
        x.roll(9, 9, 9, 9);
        check.due("fault() of a refused roll", x.fault(), 0);
        x.put(3, 0, 0);
        x.ways(9, 9, 9, 9);
        check.due("fault() of refused ways", x.fault(), 0);
        x.put(3, 0, 0);
        x.hill(0, 1, 0, 3);
        check.due("fault() of a text with a fault", x.fault(), 0);
    }

    private static void many() {
        MarbleVotes x = votes();
        x.wet(true);
        check.due("many(0)", x.many(0), 4);
        check.due("many(1)", x.many(1), 4);
        check.due("many(2)", x.many(2), 4);
        check.due("many(3)", x.many(3), 1);
        check.due("many(4)", x.many(4), MarbleVotes.OUTSIDE);
        check.due("many(-1)", x.many(-1), MarbleVotes.OUTSIDE);
        Hills.read(x, "m56001122;pppppp;......;llllll;rrrrrr;####.p");
        check.due("many(0)", x.many(0), 30);
        check.due("many(1)", x.many(1), 6);
        check.due("many(2)", x.many(2), 0);
        check.due("many(3)", x.many(3), 0);
    }
}
