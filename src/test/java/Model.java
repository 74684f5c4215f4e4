import java.util.ArrayList;
import java.util.List;

/**
 * The document said a second time, as slowly as it reads: chances by trying all draws, moves by trying all
 * signs, rows and sets one by one; faults as the machine's own exceptions. For RunsTest to compare with.
 */
public final class Model {
    private static final int UNKNOWN = -1, OUTSIDE = -2, STATE = -3, FULL = -4, NONE = -9;
    private static final long LOST = Long.MIN_VALUE;
    private static final String SIGNS = ".plr#";

    private StringBuilder signs = new StringBuilder();
    private String parties = "";
    private boolean wet = false;
    private final List<int[]> votes = new ArrayList<>();
    private final Object[] sheets = new Object[4];
    private int trace = 0;
    private int fault = 0;

    private int wide() {
        return parties.length();
    }

    private int high() {
        return wide() == 0 ? 0 : signs.length() / wide();
    }

    private static boolean among(int k, int many) {
        return 0 <= k && k < many;
    }

    // sheets

    private static int lengthOf(Object row) {
        return java.lang.reflect.Array.getLength(row);
    }

    private static int read(Object row, int i) {
        return row instanceof byte[] b ? b[i] : row instanceof short[] s ? s[i] : ((int[]) row)[i];
    }

    private static void write(Object row, int i, int v) {
        if (row instanceof byte[] b) {
            b[i] = (byte) v;
        } else if (row instanceof short[] s) {
            s[i] = (short) v;
        } else {
            ((int[]) row)[i] = v;
        }
    }

    private Object castTo(int k, int lane) {
        Object of = sheets[k];
        return lane == 0 ? (byte[]) of : lane == 1 ? (short[]) of : (int[]) of;
    }

    private int[] taken(int k, int lane, int i, int n) {
        Object row = castTo(k, lane);
        int length = lengthOf(row);
        int[] of = new int[Math.min(n, 100)];
        if (i < 0 || i > length || n > 60) {
            throw new ArrayIndexOutOfBoundsException();
        }
        for (int at = 0; at < n; at++) {
            of[at] = read(row, i + at);
        }
        return of;
    }

    private int failed(RuntimeException e) {
        fault = e instanceof NullPointerException ? 1 : e instanceof ClassCastException ? 2
            : e instanceof IndexOutOfBoundsException ? 3 : e instanceof NegativeArraySizeException ? 4 : 99;
        return -10 - fault;
    }

    public int sheet(int k, int lane, int n) {
        fault = 0;
        if (!among(k, 4)) {
            return UNKNOWN;
        }
        if (!among(lane, 3) || n > 60) {
            return OUTSIDE;
        }
        try {
            sheets[k] = lane == 0 ? new byte[n] : lane == 1 ? new short[n] : new int[n];
        } catch (NegativeArraySizeException e) {
            return failed(e);
        }
        return 1;
    }

    public int lose(int k) {
        if (!among(k, 4)) {
            return UNKNOWN;
        }
        int had = sheets[k] == null ? 0 : 1;
        sheets[k] = null;
        return had;
    }

    public int put(int k, int i, int v) {
        fault = 0;
        if (!among(k, 4)) {
            return UNKNOWN;
        }
        try {
            write(sheets[k], i, v);
        } catch (RuntimeException e) {
            return failed(e);
        }
        return 1;
    }

    public long cell(int k, int i, int lane) {
        fault = 0;
        if (!among(k, 4) || !among(lane, 3)) {
            return LOST;
        }
        try {
            return read(castTo(k, lane), i);
        } catch (RuntimeException e) {
            failed(e);
            return LOST;
        }
    }

    public int copy(int k, int i, int other, int j, int n) {
        fault = 0;
        if (!among(k, 4) || !among(other, 4)) {
            return UNKNOWN;
        }
        try {
            if (sheets[k].getClass() != java.util.Objects.requireNonNull(sheets[other]).getClass()) {
                throw new ClassCastException();
            }
            System.arraycopy(sheets[k], i, sheets[other], j, n);
        } catch (RuntimeException e) {
            return failed(e);
        }
        return n;
    }

    // hill

    private static String textPattern(int high, int wide) {
        return "m" + high + wide + "[0-3]{" + wide + "}(;[.plr#]{" + wide + "}){" + high + "}";
    }

    private static boolean isText(String text) {
        for (int high = 1; high <= 5; high++) {
            for (int wide = 2; wide <= 6; wide++) {
                if (text.matches(textPattern(high, wide))) {
                    return true;
                }
            }
        }
        return false;
    }

    /** Whether some text goes on from here: it is filled up, at each place in turn, until it is one. */
    private static boolean canGoOn(String ahead) {
        String text = ahead + (ahead.length() < 3 ? "m12".substring(ahead.length()) : "");
        if (!text.substring(0, 3).matches("m[1-5][2-6]")) {
            return false;
        }
        int wide = text.charAt(2) - '0';
        for (int k = 0; k <= 44; k++) {
            if (isText(text)) {
                return true;
            }
            int behind = text.length() - 3 - wide;
            text += behind < 0 ? '0' : behind % (wide + 1) == 0 ? ';' : '.';
        }
        return false;
    }

    public int hill(int sheet, int lane, int i, int n) {
        fault = 0;
        if (!among(sheet, 4)) {
            return UNKNOWN;
        }
        if (!among(lane, 3)) {
            return OUTSIDE;
        }
        StringBuilder text = new StringBuilder();
        try {
            Object row = castTo(sheet, lane);
            lengthOf(row);
            for (int code : taken(sheet, lane, i, n)) {
                text.append(code < 0 || code > 127 ? '?' : (char) code);
            }
        } catch (RuntimeException e) {
            return failed(e);
        }
        if (!isText(text.toString())) {
            int good = 0;
            while (good < text.length() && canGoOn(text.substring(0, good + 1))) {
                good++;
            }
            return -100 - good;
        }
        String[] parts = text.toString().split(";");
        parties = parts[0].substring(3);
        signs = new StringBuilder(text.toString().substring(parts[0].length()).replace(";", ""));
        wet = false;
        votes.clear();
        return signs.length();
    }

    public int sign(int c) {
        return among(c, signs.length()) ? SIGNS.indexOf(signs.charAt(c)) : UNKNOWN;
    }

    public int set(int c, int sign) {
        int was = sign(c);
        if (was == UNKNOWN) {
            return UNKNOWN;
        }
        if (!among(sign, 5)) {
            return OUTSIDE;
        }
        signs.setCharAt(c, SIGNS.charAt(sign));
        return was;
    }

    public int party(int t) {
        return among(t, wide()) ? parties.charAt(t) - '0' : UNKNOWN;
    }

    public int wet(boolean is) {
        if (wide() == 0) {
            return STATE;
        }
        if (wet == is) {
            return 0;
        }
        wet = is;
        return 1;
    }

    public int vote(int kind, int column) {
        if (!among(column, wide())) {
            return UNKNOWN;
        }
        if (!among(kind, 3)) {
            return OUTSIDE;
        }
        if (votes.size() == 8) {
            return FULL;
        }
        votes.add(new int[] {kind, column});
        return votes.size() - 1;
    }

    private int left(int kind) {
        int[] dry = {4, 2, 0};
        return dry[kind] + (wet && kind < 2 ? 1 : 0);
    }

    private int right(int kind) {
        int[] dry = {4, 2, 0};
        return dry[kind] - (wet && kind < 2 ? 1 : 0);
    }

    public int ofVote(int v, int what) {
        if (!among(v, votes.size())) {
            return UNKNOWN;
        }
        int[] of = votes.get(v);
        return what == 0 ? of[0] : what == 1 ? of[1] : what == 2 ? left(of[0]) : what == 3 ? right(of[0]) : OUTSIDE;
    }

    public int back(int k) {
        if (k < 0 || k > votes.size()) {
            return OUTSIDE;
        }
        for (int times = 0; times < k; times++) {
            votes.remove(votes.size() - 1);
        }
        return votes.size();
    }

    // rolls, chances

    private int toSide(int column, int way) {
        return among(column + way, wide()) ? column + way : column;
    }

    private int wayByDraw(int kind, int draw) {
        return draw < left(kind) ? -1 : draw < 8 - right(kind) ? 0 : 1;
    }

    public int roll(int v, int sheet, int lane, int i) {
        fault = 0;
        if (!among(v, votes.size()) || !among(sheet, 4)) {
            return UNKNOWN;
        }
        if (!among(lane, 3)) {
            return OUTSIDE;
        }
        try {
            taken(sheet, lane, i, 0);
            Object draws = castTo(sheet, lane);
            int kind = votes.get(v)[0];
            int column = votes.get(v)[1];
            int at = i;
            for (int row = 0; row < high(); row++) {
                char sign = signs.charAt(row * wide() + column);
                if (sign == '#') {
                    return NONE;
                }
                int way = sign == 'l' ? -1 : sign == 'r' ? 1 : 0;
                if (kind == 2) {
                    way = 0;
                }
                if (sign == 'p') {
                    int draw = read(draws, at++);
                    if (!among(draw, 8)) {
                        return OUTSIDE;
                    }
                    way = wayByDraw(kind, draw);
                }
                column = toSide(column, way);
            }
            return column;
        } catch (RuntimeException e) {
            return failed(e);
        }
    }

    /** Of all draws, one for each row, how many lead to each trough, and (6) to a dam: at which cells. */
    private long[] ends(int kind, int column, boolean[] stuckAt) {
        long[] many = new long[7];
        countEnds(kind, column, 0, 1L << 3 * high(), many, stuckAt);
        return many;
    }

    private void countEnds(int kind, int column, int row, long draws, long[] many, boolean[] stuckAt) {
        if (row == high()) {
            many[column] += draws;
            return;
        }
        int c = row * wide() + column;
        char sign = signs.charAt(c);
        if (sign == '#') {
            many[6] += draws;
            stuckAt[c] = true;
        } else if (sign == 'p') {
            int[] ways = new int[3];
            for (int draw = 0; draw < 8; draw++) {
                ways[1 + wayByDraw(kind, draw)]++;
            }
            for (int way = -1; way <= 1; way++) {
                if (ways[1 + way] > 0) {
                    countEnds(kind, toSide(column, way), row + 1, draws / 8 * ways[1 + way], many, stuckAt);
                }
            }
        } else {
            int way = kind == 2 || sign == '.' ? 0 : sign == 'l' ? -1 : 1;
            countEnds(kind, toSide(column, way), row + 1, draws, many, stuckAt);
        }
    }

    private long[] endsOf(int v) {
        return ends(votes.get(v)[0], votes.get(v)[1], new boolean[30]);
    }

    private long share(long upper, int which) {
        long a = upper;
        long b = 1L << 3 * high();
        long lower = b;
        while (b != 0) {
            long rest = a % b;
            a = b;
            b = rest;
        }
        return which == 0 ? upper / a : lower / a;
    }

    public long chance(int v, int t, int which) {
        if (!among(v, votes.size()) || !among(t + 1, wide() + 1) || !among(which, 2)) {
            return LOST;
        }
        return share(endsOf(v)[t == -1 ? 6 : t], which);
    }

    private long ofParty(long[] ends, int p) {
        long all = 0;
        for (int t = 0; t < wide(); t++) {
            if (party(t) == p) {
                all += ends[t];
            }
        }
        return all;
    }

    private long expected(int p) {
        long all = 0;
        for (int v = 0; v < votes.size(); v++) {
            all += ofParty(endsOf(v), p);
        }
        return all;
    }

    public long expects(int p, int which) {
        if (!among(p, 4) || !among(which, 2) || wide() == 0) {
            return LOST;
        }
        return share(expected(p), which);
    }

    // where, which peg

    public int start(int v, int p) {
        if (!among(v, votes.size()) || !among(p, 4)) {
            return UNKNOWN;
        }
        int best = -1;
        long most = -1;
        for (int column = 0; column < wide(); column++) {
            long is = ofParty(ends(votes.get(v)[0], column, new boolean[30]), p);
            if (is > most) {
                most = is;
                best = column;
            }
        }
        return best;
    }

    public int move(int p) {
        if (!among(p, 4)) {
            return UNKNOWN;
        }
        if (wide() == 0) {
            return STATE;
        }
        long most = expected(p);
        int best = NONE;
        for (int c = 0; c < signs.length(); c++) {
            char was = signs.charAt(c);
            for (int sign = 0; sign < 5; sign++) {
                signs.setCharAt(c, SIGNS.charAt(sign));
                long is = expected(p);
                if (is > most) {
                    most = is;
                    best = 10 * c + sign;
                }
            }
            signs.setCharAt(c, was);
        }
        return best;
    }

    public int answer(int p, int other) {
        if (!among(p, 4) || !among(other, 4)) {
            return UNKNOWN;
        }
        if (p == other) {
            return OUTSIDE;
        }
        if (wide() == 0) {
            return STATE;
        }
        StringBuilder was = new StringBuilder(signs);
        int first = move(p);
        if (first != NONE) {
            set(first / 10, first % 10);
        }
        int second = move(other);
        signs = was;
        return second;
    }

    // who wins

    public int likeliest(int v) {
        if (!among(v, votes.size())) {
            return UNKNOWN;
        }
        long[] ends = endsOf(v);
        long most = 0;
        for (int t = 0; t < wide(); t++) {
            most = Math.max(most, ends[t]);
        }
        if (ends[6] > most) {
            return NONE;
        }
        for (int t = 0; t < wide(); t++) {
            if (ends[t] == most) {
                return t;
            }
        }
        return 99;
    }

    public int tally(int p) {
        if (!among(p, 4)) {
            return UNKNOWN;
        }
        if (wide() == 0) {
            return STATE;
        }
        int all = 0;
        for (int v = 0; v < votes.size(); v++) {
            int t = likeliest(v);
            all += t != NONE && party(t) == p ? 1 : 0;
        }
        return all;
    }

    private int winnerNow() {
        int best = 0;
        for (int p = 3; p >= 0; p--) {
            best = tally(p) >= tally(best) ? p : best;
        }
        return best;
    }

    public int winner(int what) {
        if (!among(what, 2)) {
            return OUTSIDE;
        }
        if (wide() == 0) {
            return STATE;
        }
        int winner = winnerNow();
        if (what == 0) {
            return winner;
        }
        int hangs = 0;
        for (int v = 0; v < votes.size(); v++) {
            int[] out = votes.remove(v);
            hangs += winnerNow() != winner ? 1 << v : 0;
            votes.add(v, out);
        }
        return hangs;
    }

    private boolean[] held() {
        boolean[] stuckAt = new boolean[30];
        for (int[] of : votes) {
            ends(of[0], of[1], stuckAt);
        }
        return stuckAt;
    }

    private static long bits(boolean[] of) {
        long set = 0;
        for (int c = 0; c < of.length; c++) {
            set |= of[c] ? 1L << c : 0;
        }
        return set;
    }

    /** Of sets of dams without which none sticks the one of the fewest: all sets are tried. */
    private long freed() {
        StringBuilder was = new StringBuilder(signs);
        long best = -1;
        int cells = signs.length();
        List<Integer> dams = new ArrayList<>();
        for (int c = 0; c < cells; c++) {
            if (was.charAt(c) == '#') {
                dams.add(c);
            }
        }
        for (int set = 0; set < 1 << dams.size(); set++) {
            long freed = 0;
            signs = new StringBuilder(was);
            for (int k = 0; k < dams.size(); k++) {
                if ((set >> k & 1) == 1) {
                    freed |= 1L << dams.get(k);
                    signs.setCharAt(dams.get(k), '.');
                }
            }
            if (bits(held()) == 0 && (best == -1 || Long.bitCount(freed) < Long.bitCount(best))) {
                best = freed;
            }
        }
        signs = was;
        return best;
    }

    public long dams(int what) {
        if (!among(what, 2) || wide() == 0) {
            return LOST;
        }
        return what == 0 ? bits(held()) : freed();
    }

    int damsNow() {
        int many = 0;
        for (int c = 0; c < signs.length(); c++) {
            many += signs.charAt(c) == '#' ? 1 : 0;
        }
        return many;
    }

    // what was counted

    public int ways(int v, int sheet, int lane, int i) {
        fault = 0;
        if (v != -1 && !among(v, votes.size()) || !among(sheet, 4)) {
            return UNKNOWN;
        }
        if (!among(lane, 3)) {
            return OUTSIDE;
        }
        if (wide() == 0) {
            return STATE;
        }
        int[] told;
        try {
            told = taken(sheet, lane, i, wide() + 1);
        } catch (RuntimeException e) {
            return failed(e);
        }
        long[][] ends = new long[votes.size()][];
        for (int w = 0; w < ends.length; w++) {
            ends[w] = endsOf(w);
        }
        int[] rows = new int[1];
        int where = goThrough(ends, new int[ends.length], 0, told, v, rows);
        return v == -1 ? rows[0] : where;
    }

    private int goThrough(long[][] ends, int[] row, int w, int[] told, int v, int[] rows) {
        if (w == row.length) {
            int[] came = new int[7];
            for (int end : row) {
                came[end]++;
            }
            for (int t = 0; t <= wide(); t++) {
                if (came[t == wide() ? 6 : t] != told[t]) {
                    return 0;
                }
            }
            rows[0]++;
            return v < 0 ? 0 : 1 << row[v];
        }
        int where = 0;
        for (int end = 0; end < 7; end++) {
            if (ends[w][end] > 0) {
                row[w] = end;
                where |= goThrough(ends, row, w + 1, told, v, rows);
            }
        }
        return where;
    }

    public int fair() {
        if (wide() == 0) {
            return STATE;
        }
        int set = 0;
        for (int column = 0; column < wide(); column++) {
            long[] ends = ends(0, column, new boolean[30]);
            List<Long> shares = new ArrayList<>();
            for (int p = 0; p < 4; p++) {
                if (parties.indexOf('0' + p) >= 0) {
                    shares.add(ofParty(ends, p));
                }
            }
            set |= shares.stream().distinct().count() == 1 ? 1 << column : 0;
        }
        return set;
    }

    // parts

    private static int traced(int trace, String bodies) {
        int now = trace;
        for (char body : bodies.toCharArray()) {
            now = 31 * now + body - '0';
        }
        return now;
    }

    public int tell(int v) {
        if (!among(v, votes.size())) {
            return UNKNOWN;
        }
        int kind = votes.get(v)[0];
        int column = votes.get(v)[1];
        trace = traced(trace, kind == 0 ? "1" : kind == 1 ? "21" : "3211");
        return kind == 0 ? column : kind == 1 ? column + 100 : 2 * column + 100;
    }

    public int weigh(int v) {
        if (!among(v, votes.size())) {
            return UNKNOWN;
        }
        boolean lead = votes.get(v)[0] == 2;
        trace = traced(trace, lead ? "5" : "4");
        return lead ? 60 : v;
    }

    public int as(int v, int kind) {
        fault = 0;
        if (!among(v, votes.size())) {
            return UNKNOWN;
        }
        if (!among(kind, 3)) {
            return OUTSIDE;
        }
        return kind > votes.get(v)[0] ? failed(new ClassCastException()) : 1;
    }

    public int trace() {
        return trace;
    }

    public int fault() {
        return fault;
    }

    public int many(int what) {
        return what == 0 ? signs.length() : what == 1 ? wide() : what == 2 ? votes.size()
            : what == 3 ? (wet ? 1 : 0) : OUTSIDE;
    }
}
