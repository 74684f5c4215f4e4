import java.util.ArrayList;
import java.util.List;

/** All that can be asked of an object but fault(), which asking changes: so look at fault() first. */
final class State {
    private State() {
    }

    static List<Long> of(MarbleVotes x) {
        List<Long> all = new ArrayList<>();
        for (int what = 0; what < 4; what++) {
            all.add((long) x.many(what));
        }
        for (int c = 0; c < x.many(0); c++) {
            all.add((long) x.sign(c));
        }
        for (int t = 0; t < x.many(1); t++) {
            all.add((long) x.party(t));
        }
        for (int v = 0; v < x.many(2); v++) {
            for (int what = 0; what < 4; what++) {
                all.add((long) x.ofVote(v, what));
            }
        }
        all.add((long) x.trace());
        for (int k = 0; k < 4; k++) {
            addSheet(x, k, all);
        }
        return all;
    }

    /** Its lane is told by the fault of cell -1: 1 nothing, 2 another lane, 3 this one. */
    private static void addSheet(MarbleVotes x, int k, List<Long> all) {
        for (int lane = 0; lane < 3; lane++) {
            x.cell(k, -1, lane);
            all.add((long) x.fault());
            for (int i = 0; x.cell(k, i, lane) != MarbleVotes.LOST; i++) {
                all.add(x.cell(k, i, lane));
            }
        }
    }
}
