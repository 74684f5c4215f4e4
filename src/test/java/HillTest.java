/** Promises 1 to 9: a new object, the hill, its votes. */
public final class HillTest {
    private static final String TEXT = "m23012;p.#;lrp";
    private static final Check check = new Check("HillTest");

    public static void main(String[] args) {
        newObject();
        hillIsTaken();
        hillFaultsOfTexts();
        hillRefusalsInOrder();
        hillMakesAllAnew();
        signAndSet();
        party();
        wet();
        vote();
        ofVote();
        back();
        check.end();
    }

    private static void newObject() {
        MarbleVotes x = new MarbleVotes();
        for (int what = 0; what < 4; what++) {
            check.due("new many(" + what + ")", x.many(what), 0);
        }
        check.due("new trace()", x.trace(), 0);
        check.due("new fault()", x.fault(), 0);
        for (int k = 0; k < 4; k++) {
            check.due("new put", x.put(k, 0, 1), Hills.NULL);
            check.due("new lose", x.lose(k), 0);
        }
        check.due("new sign(0)", x.sign(0), MarbleVotes.UNKNOWN);
        check.due("new set(0, 0)", x.set(0, 0), MarbleVotes.UNKNOWN);
        check.due("new party(0)", x.party(0), MarbleVotes.UNKNOWN);
        check.due("new vote(0, 0)", x.vote(0, 0), MarbleVotes.UNKNOWN);
        check.due("new ofVote(0, 0)", x.ofVote(0, 0), MarbleVotes.UNKNOWN);
        check.due("new back(0)", x.back(0), 0);
        check.due("new back(1)", x.back(1), MarbleVotes.OUTSIDE);
        check.due("constant UNKNOWN", MarbleVotes.UNKNOWN, -1);
        check.due("constant OUTSIDE", MarbleVotes.OUTSIDE, -2);
        check.due("constant STATE", MarbleVotes.STATE, -3);
        check.due("constant FULL", MarbleVotes.FULL, -4);
        check.due("constant NONE", MarbleVotes.NONE, -9);
        check.due("constant LOST", MarbleVotes.LOST, Long.MIN_VALUE);
    }

    private static void hillIsTaken() {
        for (int lane = 0; lane < 3; lane++) {
            MarbleVotes x = new MarbleVotes();
            Hills.writeText(x, 2, lane, "p" + TEXT + "zz");
            check.due("hill from 1 on, lane " + lane, x.hill(2, lane, 1, TEXT.length()), 6);
            int[] signs = {1, 0, 4, 2, 3, 1};
            for (int c = 0; c < 6; c++) {
                check.due("sign(" + c + ")", x.sign(c), signs[c]);
            }
            for (int t = 0; t < 3; t++) {
                check.due("party(" + t + ")", x.party(t), t);
            }
            check.due("wide", x.many(1), 3);
        }
        check.due("the least hill", Hills.read(new MarbleVotes(), "m1230;.#"), 2);
        MarbleVotes x = new MarbleVotes();
        check.due("the greatest hill",
            Hills.read(x, "m56001122;pppppp;......;llllll;rrrrrr;####.p"), 30);
        check.due("its last cell but one", x.sign(28), 0);
        check.due("its last cell", x.sign(29), 1);
        check.due("no cell behind it", x.sign(30), MarbleVotes.UNKNOWN);
    }

    private static void hillFaultsOfTexts() {
        MarbleVotes x = Hills.made("m1230;.#", 0, 1);
        for (int n = 0; n < TEXT.length(); n++) {
            check.due("a text of " + n + " codes", Hills.read(x, TEXT.substring(0, n)), -100 - n);
            check.due("fault()", x.fault(), 0);
        }
        for (int place = 0; place < TEXT.length(); place++) {
            for (char wrong : new char[] {'x', ' ', '7', (char) 0}) {
                String text = TEXT.substring(0, place) + wrong + TEXT.substring(place + 1);
                check.due("a wrong code at " + place, Hills.read(x, text), -100 - place);
            }
        }
        check.due("one code too many", Hills.read(x, TEXT + ";"), -114);
        check.due("one code too many behind the greatest",
            Hills.read(x, "m56001122;pppppp;......;llllll;rrrrrr;####.p."), -144);
        check.due("HIGH 0", Hills.read(x, "m02"), -101);
        check.due("HIGH 6", Hills.read(x, "m62"), -101);
        check.due("WIDE 1", Hills.read(x, "m11"), -102);
        check.due("WIDE 7", Hills.read(x, "m17"), -102);
        check.due("PARTY 4", Hills.read(x, "m1204"), -104);
        check.due("PARTY below 0", Hills.read(x, "m12/"), -103);
        check.due("a sign where ; is due", Hills.read(x, "m1200."), -105);
        check.due("; where a sign is due", Hills.read(x, "m1200;;"), -106);
        check.due("an upper m", Hills.read(x, "M1200;.."), -100);
        Hills.write(x, 1, Hills.INTS, 65536 + 'm');
        check.due("a code that is m in its lower half alone", x.hill(1, Hills.INTS, 0, 1), -100);
        Hills.write(x, 1, Hills.INTS, 'm', '1', '2', '0', '0', ';', 65536 + '.');
        check.due("a code that is . in its lower half alone", x.hill(1, Hills.INTS, 0, 7), -106);
        check.due("the hill is as it was", x.many(0), 2);
        check.due("its sign is as it was", x.sign(1), 4);
        check.due("its vote is as it was", x.many(2), 1);
    }

    private static void hillRefusalsInOrder() {
        MarbleVotes x = Hills.made(TEXT);
        x.sheet(1, Hills.BYTES, 5);
        check.due("hill(-1, 3, -1, -1)", x.hill(-1, 3, -1, -1), MarbleVotes.UNKNOWN);
        check.due("hill(4, 3, -1, -1)", x.hill(4, 3, -1, -1), MarbleVotes.UNKNOWN);
        check.due("hill(2, 3, -1, -1)", x.hill(2, 3, -1, -1), MarbleVotes.OUTSIDE);
        check.due("hill(2, -1, -1, -1)", x.hill(2, -1, -1, -1), MarbleVotes.OUTSIDE);
        check.due("hill of nothing", x.hill(2, 1, -1, -1), Hills.NULL);
        check.due("fault() NULL", x.fault(), 1);
        check.due("hill of another lane", x.hill(1, 1, -1, -1), Hills.CAST);
        check.due("fault() CAST", x.fault(), 2);
        check.due("hill of a length below 0", x.hill(1, 0, -1, -1), Hills.SIZE);
        check.due("fault() SIZE", x.fault(), 4);
        check.due("hill from -1", x.hill(1, 0, -1, 0), Hills.INDEX);
        check.due("fault() INDEX", x.fault(), 3);
        check.due("hill from the end, none taken", x.hill(1, 0, 5, 0), -100);
        check.due("fault() none", x.fault(), 0);
        check.due("hill from behind the end, none taken", x.hill(1, 0, 6, 0), Hills.INDEX);
        check.due("hill one cell beyond", x.hill(1, 0, 1, 5), Hills.INDEX);
        check.due("hill far beyond", x.hill(1, 0, 1, Integer.MAX_VALUE), Hills.INDEX);
        check.due("hill from far beyond", x.hill(1, 0, Integer.MAX_VALUE, 1), Hills.INDEX);
        check.due("hill refused", x.hill(9, 0, 0, 0), MarbleVotes.UNKNOWN);
        check.due("fault() of a refused one", x.fault(), 0);
        check.due("the hill is as it was", x.many(0), 6);
    }

    private static void hillMakesAllAnew() {
        MarbleVotes x = Hills.made(TEXT, 0, 1, 1, 2);
        x.wet(true);
        x.set(0, 4);
        x.tell(0);
        int trace = x.trace();
        Hills.write(x, 3, Hills.INTS, 77);
        check.due("hill again", x.hill(0, Hills.SHORTS, 0, TEXT.length()), 6);
        check.due("no votes", x.many(2), 0);
        check.due("dry", x.many(3), 0);
        check.due("the text's sign", x.sign(0), 1);
        check.due("trace stays", x.trace(), trace);
        check.due("a sheet stays", x.cell(3, 0, Hills.INTS), 77);
        check.due("a smaller hill", Hills.read(x, "m1230;.#"), 2);
        check.due("the cells behind are gone", x.sign(2), MarbleVotes.UNKNOWN);
        check.due("the trough behind is gone", x.party(2), MarbleVotes.UNKNOWN);
    }

    private static void signAndSet() {
        MarbleVotes x = Hills.made(TEXT);
        check.due("sign(-1)", x.sign(-1), MarbleVotes.UNKNOWN);
        check.due("sign(6)", x.sign(6), MarbleVotes.UNKNOWN);
        int was = 1;
        for (int sign = 4; sign >= 0; sign--) {
            check.due("set(0, " + sign + ")", x.set(0, sign), was);
            check.due("sign(0)", x.sign(0), sign);
            was = sign;
        }
        check.due("set(6, 9)", x.set(6, 9), MarbleVotes.UNKNOWN);
        check.due("set(-1, 0)", x.set(-1, 0), MarbleVotes.UNKNOWN);
        check.due("set(5, 5)", x.set(5, 5), MarbleVotes.OUTSIDE);
        check.due("set(5, -1)", x.set(5, -1), MarbleVotes.OUTSIDE);
        check.due("sign(5)", x.sign(5), 1);
    }

    private static void party() {
        MarbleVotes x = Hills.made("m1230;..");
        check.due("party(0)", x.party(0), 3);
        check.due("party(1)", x.party(1), 0);
        check.due("party(2)", x.party(2), MarbleVotes.UNKNOWN);
        check.due("party(-1)", x.party(-1), MarbleVotes.UNKNOWN);
    }

    private static void wet() {
        MarbleVotes x = new MarbleVotes();
        check.due("wet without a hill", x.wet(true), MarbleVotes.STATE);
        check.due("it is dry", x.many(3), 0);
        check.due("dry without a hill", x.wet(false), MarbleVotes.STATE);
        Hills.read(x, TEXT);
        check.due("dry, as it was", x.wet(false), 0);
        check.due("wet", x.wet(true), 1);
        check.due("wet, as it was", x.wet(true), 0);
        check.due("it is wet", x.many(3), 1);
        check.due("dry again", x.wet(false), 1);
        check.due("it is dry again", x.many(3), 0);
    }

    private static void vote() {
        MarbleVotes x = Hills.made(TEXT);
        check.due("vote(3, 3)", x.vote(3, 3), MarbleVotes.UNKNOWN);
        check.due("vote(0, -1)", x.vote(0, -1), MarbleVotes.UNKNOWN);
        check.due("vote(3, 2)", x.vote(3, 2), MarbleVotes.OUTSIDE);
        check.due("vote(-1, 2)", x.vote(-1, 2), MarbleVotes.OUTSIDE);
        for (int v = 0; v < 8; v++) {
            check.due("vote " + v, x.vote(v % 3, v % 3), v);
        }
        check.due("a ninth one", x.vote(0, 0), MarbleVotes.FULL);
        check.due("a ninth one above no column", x.vote(0, 3), MarbleVotes.UNKNOWN);
        check.due("a ninth one of no kind", x.vote(3, 0), MarbleVotes.OUTSIDE);
        check.due("many votes", x.many(2), 8);
    }

    private static void ofVote() {
        MarbleVotes x = Hills.made(TEXT, 0, 2, 1, 1, 2, 0);
        long[][] dry = {{0, 2, 4, 4}, {1, 1, 2, 2}, {2, 0, 0, 0}};
        long[][] wet = {{0, 2, 5, 3}, {1, 1, 3, 1}, {2, 0, 0, 0}};
        for (int v = 0; v < 3; v++) {
            for (int what = 0; what < 4; what++) {
                x.wet(false);
                check.due("dry ofVote(" + v + ", " + what + ")", x.ofVote(v, what), dry[v][what]);
                x.wet(true);
                check.due("wet ofVote(" + v + ", " + what + ")", x.ofVote(v, what), wet[v][what]);
            }
        }
        check.due("ofVote(3, 4)", x.ofVote(3, 4), MarbleVotes.UNKNOWN);
        check.due("ofVote(-1, 0)", x.ofVote(-1, 0), MarbleVotes.UNKNOWN);
        check.due("ofVote(2, 4)", x.ofVote(2, 4), MarbleVotes.OUTSIDE);
        check.due("ofVote(2, -1)", x.ofVote(2, -1), MarbleVotes.OUTSIDE);
    }

    private static void back() {
        MarbleVotes x = Hills.made(TEXT, 0, 0, 1, 1, 2, 2);
        check.due("back(4)", x.back(4), MarbleVotes.OUTSIDE);
        check.due("back(-1)", x.back(-1), MarbleVotes.OUTSIDE);
        check.due("back(0)", x.back(0), 3);
        check.due("back(2)", x.back(2), 1);
        check.due("the first one is left", x.ofVote(0, 0), 0);
        check.due("the second one is gone", x.ofVote(1, 0), MarbleVotes.UNKNOWN);
        check.due("a new one takes its number", x.vote(2, 1), 1);
        check.due("and is of its own kind", x.ofVote(1, 0), 2);
        check.due("back(2) of two", x.back(2), 0);
        check.due("back(1) of none", x.back(1), MarbleVotes.OUTSIDE);
    }
}
