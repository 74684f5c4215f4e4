/** Promise 2: texts of each HIGH and WIDE; at each place each code; the first fault. */
public final class TextTest {
    private static final String TEXT = "m23012;p.#;lrp";
    private static final int HIGH = 2, WIDE = 3;
    private static final Check check = new Check("TextTest");

    public static void main(String[] args) {
        for (int high = 1; high <= 5; high++) {
            for (int wide = 2; wide <= 6; wide++) {
                shape(high, wide);
            }
        }
        for (int place = 0; place < TEXT.length(); place++) {
            for (int from = -130; from < 390; from += 130) {
                codesAt(place, from, from + 130);
            }
        }
        severalFaults();
        textsAmongOtherCells();
        check.end();
    }

    /** A text of it, all that it begins with, and one code more. */
    private static void shape(int high, int wide) {
        String text = "m" + high + wide + "301230".substring(0, wide) + (";" + ".plr#p".substring(0, wide)).repeat(high);
        int length = text.length();
        check.due("codes of a text", length, 3 + wide + high * (wide + 1));
        MarbleVotes x = new MarbleVotes();
        Hills.writeText(x, 3, Hills.BYTES, text + ";");
        for (int n = 0; n < length; n++) {
            check.due(n + " codes of " + text, x.hill(3, Hills.BYTES, 0, n), -100 - n);
        }
        check.due("there is no hill yet", x.many(0), 0);
        check.due("one code more than " + text, x.hill(3, Hills.BYTES, 0, length + 1), -100 - length);
        check.due(text, x.hill(3, Hills.BYTES, 0, length), high * wide);
        check.due("its cells", x.many(0), high * wide);
        check.due("its columns", x.many(1), wide);
        for (int c = 0; c < high * wide; c++) {
            check.due("sign(" + c + ")", x.sign(c), new int[] {0, 1, 2, 3, 4, 1}[c % wide]);
        }
        check.due("no cell behind", x.sign(high * wide), MarbleVotes.UNKNOWN);
        for (int t = 0; t < wide; t++) {
            check.due("party(" + t + ")", x.party(t), "301230".charAt(t) - '0');
        }
        check.due("no trough behind", x.party(wide), MarbleVotes.UNKNOWN);
    }

    /** The text with each of some codes at a place. */
    private static void codesAt(int place, int from, int end) {
        MarbleVotes x = new MarbleVotes();
        Hills.writeText(x, 0, Hills.INTS, TEXT);
        for (int code = from; code < end; code++) {
            x.put(0, place, code);
            check.due("code " + code + " at " + place, x.hill(0, Hills.INTS, 0, TEXT.length()), dueWith(place, code));
        }
    }

    private static int dueWith(int place, int code) {
        boolean goesOn = code > 0 && code < 128 && codesFor(place).indexOf(code) >= 0;
        if (!goesOn) {
            return -100 - place;
        }
        int digit = code - '0';
        if (place == 1 && digit != HIGH) {
            // Of a lower hill the text is too long, of a higher one too short.
            return -100 - (digit < HIGH ? 3 + WIDE + digit * (WIDE + 1) : TEXT.length());
        }
        if (place == 2 && digit != WIDE) {
            // A party stands where ; is due, or ; where a party is due.
            return -100 - (3 + Math.min(digit, WIDE));
        }
        return HIGH * WIDE;
    }

    private static String codesFor(int place) {
        String[] first = {"m", "12345", "23456", "0123", "0123", "0123"};
        if (place < first.length) {
            return first[place];
        }
        return (place - first.length) % (WIDE + 1) == 0 ? ";" : ".plr#";
    }

    /** The first of several is told. */
    private static void severalFaults() {
        MarbleVotes x = new MarbleVotes();
        check.due("at 4 and 8", Hills.read(x, "m2301;;p;#;lrp"), -105);
        check.due("at 3 and too short", Hills.read(x, "m23x"), -103);
        check.due("at 2 and 3", Hills.read(x, "m2xx"), -102);
        check.due("at 1 and 2", Hills.read(x, "mxx"), -101);
        check.due("at 0 and 1", Hills.read(x, "xx"), -100);
        check.due("at the first sign of the last row, and the next", Hills.read(x, "m23012;p.#;xx"), -111);
        check.due("there is no hill", x.many(0), 0);
    }

    /** Only the n cells from i on are looked at. */
    private static void textsAmongOtherCells() {
        for (int ahead = 0; ahead <= 60 - 44; ahead += 8) {
            MarbleVotes x = new MarbleVotes();
            String text = "m56001122;pppppp;......;llllll;rrrrrr;####.p";
            Hills.writeText(x, 1, Hills.SHORTS, "m".repeat(ahead) + text + "#".repeat(60 - 44 - ahead));
            check.due("the greatest text from " + ahead + " on", x.hill(1, Hills.SHORTS, ahead, 44), 30);
            check.due("its last sign", x.sign(29), 1);
            check.due("it begins one later", x.hill(1, Hills.SHORTS, ahead + 1, 43), -100);
            check.due("it ends one sooner", x.hill(1, Hills.SHORTS, ahead, 43), -143);
            int beyond = x.hill(1, Hills.SHORTS, ahead, 61 - ahead);
            check.due("one cell that is not there", beyond, Hills.INDEX);
            check.due("the hill stays", x.many(0), 30);
        }
    }
}
