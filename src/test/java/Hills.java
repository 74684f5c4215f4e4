/** Puts texts and rows into sheets, and makes hills by them. */
final class Hills {
    static final int BYTES = 0, SHORTS = 1, INTS = 2;
    static final int CAST = -12, NULL = -11, INDEX = -13, SIZE = -14;

    private Hills() {
    }

    static void write(MarbleVotes x, int sheet, int lane, int... numbers) {
        x.sheet(sheet, lane, numbers.length);
        for (int i = 0; i < numbers.length; i++) {
            x.put(sheet, i, numbers[i]);
        }
    }

    static void writeText(MarbleVotes x, int sheet, int lane, String text) {
        write(x, sheet, lane, text.chars().toArray());
    }

    /** Sheet 0 bears the text. */
    static int read(MarbleVotes x, String text) {
        writeText(x, 0, SHORTS, text);
        return x.hill(0, SHORTS, 0, text.length());
    }

    static MarbleVotes made(String text) {
        MarbleVotes x = new MarbleVotes();
        if (read(x, text) <= 0) {
            throw new IllegalStateException("no hill by " + text);
        }
        return x;
    }

    /** Votes told as kind, column, kind, column, .. */
    static MarbleVotes made(String text, int... votes) {
        MarbleVotes x = made(text);
        for (int k = 0; k + 1 < votes.length; k += 2) {
            x.vote(votes[k], votes[k + 1]);
        }
        return x;
    }
}
