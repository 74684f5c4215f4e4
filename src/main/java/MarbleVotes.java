import java.util.Arrays;

/** Votes that roll down a hill of pegs into the parties' troughs; ../shared/DOC.md tells each call. */
public final class MarbleVotes {
    public static final int UNKNOWN = -1, OUTSIDE = -2, STATE = -3, FULL = -4, NONE = -9;
    public static final long LOST = Long.MIN_VALUE;

    private static final int NO_FAULT = 0, NULL = 1, CAST = 2, INDEX = 3, SIZE = 4;

    private static final int MARBLE = 0, HEAVY = 1, LEAD = 2, KINDS = 3;

    /** In the order in which the document tells them. */
    private static final int NOTHING = 0, PEG = 1, LEANS_LEFT = 2, LEANS_RIGHT = 3, DAM = 4, SIGNS = 5;

    /** The third lane, ints, is the one that cuts nothing. */
    private static final int BYTES = 0, SHORTS = 1, LANES = 3;

    private static final int HIGHEST = 5, NARROWEST = 2, WIDEST = 6, MOST_CELLS = HIGHEST * WIDEST;
    private static final int PARTIES = 4, MOST_VOTES = 8, SHEETS = 4, LONGEST = 60;

    /** Cells by their numbers, and behind them the troughs, as if they were one row more. */
    private static final int MOST_PLACES = MOST_CELLS + WIDEST;

    private static final int PARTS = 8;

    /** PARTS, as often as there can be rows: so a weight falls into whole parts down to the troughs. */
    private static final int WHOLE = 32768;

    /** Where a vote can come to: troughs 0 .. 5, or it sticks. */
    private static final int STICKS = 6, ENDS = 7;

    /** Rows of seven numbers that are 8 together and no more than told: 3 * 2 * 2 * 2 * 2 * 2 * 2 at most. */
    private static final int MOST_STATES = 192;

    private final Hill hill;
    private final Votes votes;
    private final Flow flow;
    private final Count count;
    private final Sheet[] sheets;
    private int trace;
    private int fault;

    public MarbleVotes() {
        hill = new Hill();
        votes = new Votes();
        flow = new Flow(hill, votes);
        count = new Count();
        sheets = new Sheet[SHEETS];
        for (int k = 0; k < SHEETS; k++) {
            sheets[k] = new Sheet();
        }
        trace = 0;
        fault = NO_FAULT;
    }

    // ---- 1 the hill

    public int hill(int sheet, int lane, int i, int n) {
        fault = NO_FAULT;
        if (!isSheet(sheet)) {
            return UNKNOWN;
        }
        if (!isLane(lane)) {
            return OUTSIDE;
        }
        Sheet text = sheets[sheet];
        int wrong = text.faultAs(lane);
        if (wrong == NO_FAULT && n < 0) {
            wrong = SIZE;
        }
        if (wrong == NO_FAULT && !text.spans(i, n)) {
            wrong = INDEX;
        }
        if (wrong != NO_FAULT) {
            return failed(wrong);
        }
        int place = hill.firstFault(text, i, n);
        if (place >= 0) {
            return -100 - place;
        }
        hill.build(text, i);
        votes.count = 0;
        return hill.cells();
    }

    public int sign(int c) {
        return hill.hasCell(c) ? hill.signs[c] : UNKNOWN;
    }

    public int set(int c, int sign) {
        if (!hill.hasCell(c)) {
            return UNKNOWN;
        }
        if (sign < 0 || sign >= SIGNS) {
            return OUTSIDE;
        }
        int was = hill.signs[c];
        hill.signs[c] = sign;
        return was;
    }

    public int party(int t) {
        return hill.hasColumn(t) ? hill.parties[t] : UNKNOWN;
    }

    public int wet(boolean is) {
        if (!hill.stands()) {
            return STATE;
        }
        boolean was = hill.wet;
        hill.wet = is;
        return was == is ? 0 : 1;
    }

    public int vote(int kind, int column) {
        if (!hill.hasColumn(column)) {
            return UNKNOWN;
        }
        if (!isKind(kind)) {
            return OUTSIDE;
        }
        if (votes.count >= MOST_VOTES) {
            return FULL;
        }
        return votes.add(kind, column);
    }

    public int ofVote(int v, int what) {
        if (!votes.has(v)) {
            return UNKNOWN;
        }
        switch (what) {
            case 0: return votes.kinds[v];
            case 1: return votes.columns[v];
            case 2: return hill.partsLeft(PEG, votes.kinds[v]);
            case 3: return hill.partsRight(PEG, votes.kinds[v]);
            default: return OUTSIDE;
        }
    }

    public int back(int k) {
        if (k < 0 || k > votes.count) {
            return OUTSIDE;
        }
        votes.count -= k;
        return votes.count;
    }

    // ---- 2 rolls, chances

    public int roll(int v, int sheet, int lane, int i) {
        fault = NO_FAULT;
        if (!votes.has(v) || !isSheet(sheet)) {
            return UNKNOWN;
        }
        if (!isLane(lane)) {
            return OUTSIDE;
        }
        Sheet draws = sheets[sheet];
        int wrong = draws.faultAs(lane);
        if (wrong == NO_FAULT && !draws.spans(i, 0)) {
            wrong = INDEX;
        }
        return wrong == NO_FAULT ? rollBy(v, draws, i) : failed(wrong);
    }

    private int rollBy(int v, Sheet draws, int from) {
        int kind = votes.kinds[v];
        int place = votes.columns[v];
        int next = from;
        for (int row = 0; row < hill.high; row++) {
            int sign = hill.signs[place];
            if (sign == DAM) {
                return NONE;
            }
            // A cell that is no peg sends all eight parts one way: any draw does for it.
            int draw = 0;
            if (sign == PEG) {
                if (!draws.has(next)) {
                    return failed(INDEX);
                }
                draw = draws.at(next);
                next++;
            }
            if (draw < 0 || draw >= PARTS) {
                return OUTSIDE;
            }
            place = hill.below(place, sign, kind, draw);
        }
        return place - hill.cells();
    }

    public long chance(int v, int t, int which) {
        if (!votes.has(v) || t != -1 && !hill.hasColumn(t)) {
            return LOST;
        }
        if (which < 0 || which > 1) {
            return LOST;
        }
        flow.drop(votes.kinds[v], votes.columns[v]);
        int weight = t == -1 ? flow.stuck(votes.kinds[v]) : flow.arrived(votes.kinds[v], t);
        return leastTerms(weight, which);
    }

    public long expects(int p, int which) {
        if (!isParty(p) || which < 0 || which > 1 || !hill.stands()) {
            return LOST;
        }
        return leastTerms(flow.expected(p), which);
    }

    /** Of a share of WHOLE, which is a power of two, the upper (0) or lower number (1). */
    private static int leastTerms(int weight, int which) {
        int upper = weight;
        int lower = WHOLE;
        while (lower > 1 && upper % 2 == 0) {
            upper /= 2;
            lower /= 2;
        }
        return which == 0 ? upper : lower;
    }

    // ---- 3 where, which peg

    public int start(int v, int p) {
        if (!votes.has(v) || !isParty(p)) {
            return UNKNOWN;
        }
        return flow.bestStart(votes.kinds[v], p);
    }

    public int move(int p) {
        if (!isParty(p)) {
            return UNKNOWN;
        }
        return hill.stands() ? flow.bestMove(p) : STATE;
    }

    public int answer(int p, int other) {
        if (!isParty(p) || !isParty(other)) {
            return UNKNOWN;
        }
        if (p == other) {
            return OUTSIDE;
        }
        if (!hill.stands()) {
            return STATE;
        }
        int first = flow.bestMove(p);
        if (first == NONE) {
            return flow.bestMove(other);
        }
        int c = first / 10;
        int was = hill.signs[c];
        hill.signs[c] = first % 10;
        int second = flow.bestMove(other);
        hill.signs[c] = was;
        return second;
    }

    // ---- 4 who wins

    public int likeliest(int v) {
        if (!votes.has(v)) {
            return UNKNOWN;
        }
        int end = flow.likeliestEnd(v);
        return end == STICKS ? NONE : end;
    }

    public int tally(int p) {
        if (!isParty(p)) {
            return UNKNOWN;
        }
        return hill.stands() ? flow.tallyOf(p) : STATE;
    }

    public int winner(int what) {
        if (what < 0 || what > 1) {
            return OUTSIDE;
        }
        if (!hill.stands()) {
            return STATE;
        }
        return what == 0 ? flow.winnerOfAll() : flow.votesItHangsOn();
    }

    public long dams(int what) {
        if (what < 0 || what > 1 || !hill.stands()) {
            return LOST;
        }
        // A dam that votes come to must go, and then they come to those below it: so to be freed
        // are the dams that votes come to where all dams let them pass.
        return flow.damsReached(what == 0);
    }

    // ---- 5 what was counted

    public int ways(int v, int sheet, int lane, int i) {
        fault = NO_FAULT;
        if (v != -1 && !votes.has(v) || !isSheet(sheet)) {
            return UNKNOWN;
        }
        if (!isLane(lane)) {
            return OUTSIDE;
        }
        if (!hill.stands()) {
            return STATE;
        }
        Sheet told = sheets[sheet];
        int wrong = told.faultAs(lane);
        if (wrong == NO_FAULT && !told.spans(i, hill.wide + 1)) {
            wrong = INDEX;
        }
        if (wrong != NO_FAULT) {
            return failed(wrong);
        }
        if (!count.take(told, i, hill.wide, votes.count)) {
            return 0;
        }
        for (int w = 0; w < votes.count; w++) {
            count.ends[w] = flow.endsOf(w);
        }
        return v == -1 ? count.rows() : count.endsOfRows(v);
    }

    public int fair() {
        return hill.stands() ? flow.fairColumns() : STATE;
    }

    // ---- 6 sheets, parts

    public int sheet(int k, int lane, int n) {
        fault = NO_FAULT;
        if (!isSheet(k)) {
            return UNKNOWN;
        }
        if (!isLane(lane) || n > LONGEST) {
            return OUTSIDE;
        }
        if (n < 0) {
            return failed(SIZE);
        }
        sheets[k].renew(lane, n);
        return 1;
    }

    public int lose(int k) {
        if (!isSheet(k)) {
            return UNKNOWN;
        }
        boolean had = sheets[k].isThere;
        sheets[k].isThere = false;
        return had ? 1 : 0;
    }

    public int put(int k, int i, int v) {
        fault = NO_FAULT;
        if (!isSheet(k)) {
            return UNKNOWN;
        }
        if (!sheets[k].isThere) {
            return failed(NULL);
        }
        if (!sheets[k].has(i)) {
            return failed(INDEX);
        }
        sheets[k].write(i, v);
        return 1;
    }

    public long cell(int k, int i, int lane) {
        fault = NO_FAULT;
        if (!isSheet(k) || !isLane(lane)) {
            return LOST;
        }
        int wrong = sheets[k].faultAs(lane);
        if (wrong == NO_FAULT && !sheets[k].has(i)) {
            wrong = INDEX;
        }
        fault = wrong;
        return wrong == NO_FAULT ? sheets[k].at(i) : LOST;
    }

    public int copy(int k, int i, int other, int j, int n) {
        fault = NO_FAULT;
        if (!isSheet(k) || !isSheet(other)) {
            return UNKNOWN;
        }
        Sheet from = sheets[k];
        Sheet to = sheets[other];
        if (!from.isThere || !to.isThere) {
            return failed(NULL);
        }
        if (from.lane != to.lane) {
            return failed(CAST);
        }
        if (!from.spans(i, n) || !to.spans(j, n)) {
            return failed(INDEX);
        }
        System.arraycopy(from.row, i, to.row, j, n);
        return n;
    }

    public int tell(int v) {
        if (!votes.has(v)) {
            return UNKNOWN;
        }
        switch (votes.kinds[v]) {
            case LEAD: return toldByLead(v);
            case HEAVY: return toldByHeavy(v);
            default: return toldByMarble(v);
        }
    }

    private int toldByMarble(int v) {
        leaveTrace(1);
        return votes.columns[v];
    }

    private int toldByHeavy(int v) {
        leaveTrace(2);
        return toldByMarble(v) + 100;
    }

    private int toldByLead(int v) {
        leaveTrace(3);
        int byHeavy = toldByHeavy(v);
        return byHeavy + toldByMarble(v);
    }

    public int weigh(int v) {
        if (!votes.has(v)) {
            return UNKNOWN;
        }
        if (votes.kinds[v] == LEAD) {
            leaveTrace(5);
            return 60;
        }
        leaveTrace(4);
        return v;
    }

    public int as(int v, int kind) {
        fault = NO_FAULT;
        if (!votes.has(v)) {
            return UNKNOWN;
        }
        if (!isKind(kind)) {
            return OUTSIDE;
        }
        // Each kind is one of all the kinds ahead of it, too.
        return votes.kinds[v] >= kind ? 1 : failed(CAST);
    }

    public int trace() {
        return trace;
    }

    public int fault() {
        return fault;
    }

    public int many(int what) {
        switch (what) {
            case 0: return hill.cells();
            case 1: return hill.wide;
            case 2: return votes.count;
            case 3: return hill.wet ? 1 : 0;
            default: return OUTSIDE;
        }
    }

    private void leaveTrace(int body) {
        trace = 31 * trace + body;
    }

    private int failed(int which) {
        fault = which;
        return -10 - which;
    }

    private static boolean isSheet(int k) {
        return k >= 0 && k < SHEETS;
    }

    private static boolean isLane(int lane) {
        return lane >= 0 && lane < LANES;
    }

    private static boolean isKind(int kind) {
        return kind >= 0 && kind < KINDS;
    }

    private static boolean isParty(int p) {
        return p >= 0 && p < PARTIES;
    }

    /** A row of numbers of a lane, or nothing. Its room is made once and used for each new row. */
    private static final class Sheet {
        private final int[] row = new int[LONGEST];
        private boolean isThere = false;
        private int lane = BYTES;
        private int length = 0;

        void renew(int newLane, int n) {
            isThere = true;
            lane = newLane;
            length = n;
            Arrays.fill(row, 0);
        }

        /** What becomes of it, taken as a row of a lane. */
        int faultAs(int asLane) {
            if (!isThere) {
                return NULL;
            }
            return lane == asLane ? NO_FAULT : CAST;
        }

        boolean has(int i) {
            return isThere && i >= 0 && i < length;
        }

        boolean spans(int i, int n) {
            return isThere && i >= 0 && n >= 0 && i <= length && n <= length - i;
        }

        int at(int i) {
            return has(i) ? row[i] : 0;
        }

        void write(int i, int v) {
            if (has(i)) {
                row[i] = cut(v);
            }
        }

        private int cut(int v) {
            switch (lane) {
                case BYTES: return (byte) v;
                case SHORTS: return (short) v;
                default: return v;
            }
        }
    }

    /** The votes, each by its number. */
    private static final class Votes {
        private final int[] kinds = new int[MOST_VOTES];
        private final int[] columns = new int[MOST_VOTES];
        private int count = 0;

        boolean has(int v) {
            return v >= 0 && v < count;
        }

        int add(int kind, int column) {
            int v = count;
            kinds[v] = kind;
            columns[v] = column;
            count++;
            return v;
        }
    }

    /** Cells with their signs, troughs with their parties, and the ways that lead down from a cell. */
    private static final class Hill {
        private final int[] signs = new int[MOST_CELLS];
        private final int[] parties = new int[WIDEST];
        private int high = 0;
        private int wide = 0;
        private boolean wet = false;

        boolean stands() {
            return wide > 0;
        }

        int cells() {
            return high * wide;
        }

        boolean hasCell(int c) {
            return c >= 0 && c < cells();
        }

        boolean hasColumn(int column) {
            return column >= 0 && column < wide;
        }

        boolean hasTroughOf(int p) {
            for (int t = 0; t < wide; t++) {
                if (parties[t] == p) {
                    return true;
                }
            }
            return false;
        }

        /** The place of the first code with which no text goes on; n if it ends too soon; -1 if it is one. */
        int firstFault(Sheet text, int from, int n) {
            int rows = 0;
            int columns = 0;
            for (int place = 0; place < n; place++) {
                int code = text.at(from + place);
                if (!goesOn(place, code, rows, columns)) {
                    return place;
                }
                if (place == 1) {
                    rows = code - '0';
                }
                if (place == 2) {
                    columns = code - '0';
                }
            }
            return n < lengthOfText(rows, columns) ? n : -1;
        }

        private static int lengthOfText(int rows, int columns) {
            return 3 + columns + rows * (columns + 1);
        }

        private static boolean goesOn(int place, int code, int rows, int columns) {
            switch (place) {
                case 0: return code == 'm';
                case 1: return code >= '1' && code <= '0' + HIGHEST;
                case 2: return code >= '0' + NARROWEST && code <= '0' + WIDEST;
                default: break;
            }
            int behindParties = place - 3 - columns;
            if (behindParties < 0) {
                return code >= '0' && code < '0' + PARTIES;
            }
            if (columns <= 0 || place >= lengthOfText(rows, columns)) {
                return false;
            }
            return behindParties % (columns + 1) == 0 ? code == ';' : signOf(code) >= 0;
        }

        private static int signOf(int code) {
            switch (code) {
                case '.': return NOTHING;
                case 'p': return PEG;
                case 'l': return LEANS_LEFT;
                case 'r': return LEANS_RIGHT;
                case '#': return DAM;
                default: return -1;
            }
        }

        /** By a text without a fault, from a place on. */
        void build(Sheet text, int from) {
            high = text.at(from + 1) - '0';
            wide = text.at(from + 2) - '0';
            wet = false;
            for (int t = 0; t < wide; t++) {
                parties[t] = text.at(from + 3 + t) - '0';
            }
            for (int row = 0; row < high; row++) {
                int firstSign = from + lengthOfText(row, wide) + 1;
                for (int column = 0; column < wide; column++) {
                    signs[row * wide + column] = signOf(text.at(firstSign + column));
                }
            }
        }

        /** Of eight parts, those that a sign sends to the left. */
        int partsLeft(int sign, int kind) {
            if (kind == LEAD) {
                return 0;
            }
            if (sign == PEG) {
                int dry = kind == MARBLE ? 4 : 2;
                return wet ? dry + 1 : dry;
            }
            return sign == LEANS_LEFT ? PARTS : 0;
        }

        int partsRight(int sign, int kind) {
            if (kind == LEAD) {
                return 0;
            }
            if (sign == PEG) {
                int dry = kind == MARBLE ? 4 : 2;
                return wet ? dry - 1 : dry;
            }
            return sign == LEANS_RIGHT ? PARTS : 0;
        }

        /** The place in the next row to which a vote goes from a cell by a draw. */
        int below(int c, int sign, int kind, int draw) {
            if (draw < partsLeft(sign, kind)) {
                return belowLeft(c);
            }
            return draw < PARTS - partsRight(sign, kind) ? c + wide : belowRight(c);
        }

        int belowLeft(int c) {
            boolean hasSide = wide > 0 && c % wide > 0;
            return hasSide ? c + wide - 1 : c + wide;
        }

        int belowRight(int c) {
            boolean hasSide = wide > 0 && c % wide < wide - 1;
            return hasSide ? c + wide + 1 : c + wide;
        }
    }

    /** How weights of votes run down the hill, and what a vote at each place is worth to a party. */
    private static final class Flow {
        private final Hill hill;
        private final Votes votes;
        /** For each kind: the weight that comes to each place. */
        private final int[][] passing = new int[KINDS][MOST_PLACES];
        /** For each kind: of WHOLE, how much comes from each place to a party's troughs. */
        private final int[][] worth = new int[KINDS][MOST_PLACES];
        /** For each vote: the party of its likeliest trough, or NONE. */
        private final int[] leanings = new int[MOST_VOTES];
        private final int[] tallies = new int[PARTIES];
        private final int[] shares = new int[PARTIES];

        Flow(Hill hill, Votes votes) {
            this.hill = hill;
            this.votes = votes;
        }

        /** One vote of a kind runs down. */
        void drop(int kind, int column) {
            Arrays.fill(passing[kind], 0);
            passing[kind][column] = WHOLE;
            runDown(kind, true);
        }

        private void dropAll(boolean damsHold) {
            for (int kind = 0; kind < KINDS; kind++) {
                Arrays.fill(passing[kind], 0);
            }
            for (int v = 0; v < votes.count; v++) {
                passing[votes.kinds[v]][votes.columns[v]] += WHOLE;
            }
            for (int kind = 0; kind < KINDS; kind++) {
                runDown(kind, damsHold);
            }
        }

        private void runDown(int kind, boolean damsHold) {
            int[] weights = passing[kind];
            for (int c = 0; c < hill.cells(); c++) {
                int sign = hill.signs[c];
                if (weights[c] == 0 || sign == DAM && damsHold) {
                    continue;
                }
                int toLeft = weights[c] / PARTS * hill.partsLeft(sign, kind);
                int toRight = weights[c] / PARTS * hill.partsRight(sign, kind);
                weights[hill.belowLeft(c)] += toLeft;
                weights[hill.belowRight(c)] += toRight;
                weights[c + hill.wide] += weights[c] - toLeft - toRight;
            }
        }

        /** Of the vote that was dropped: its weight in a trough. */
        int arrived(int kind, int t) {
            return passing[kind][hill.cells() + t];
        }

        /** Of the vote that was dropped: its weight at dams. */
        int stuck(int kind) {
            int left = WHOLE;
            for (int t = 0; t < hill.wide; t++) {
                left -= arrived(kind, t);
            }
            return left;
        }

        private void appraiseAll(int p) {
            for (int kind = 0; kind < KINDS; kind++) {
                appraise(kind, p);
            }
        }

        private void appraise(int kind, int p) {
            int cells = hill.cells();
            for (int t = 0; t < hill.wide; t++) {
                worth[kind][cells + t] = hill.parties[t] == p ? WHOLE : 0;
            }
            for (int c = cells - 1; c >= 0; c--) {
                worth[kind][c] = worthUnder(c, hill.signs[c], kind);
            }
        }

        /** What a vote at a cell is worth if the cell bears a sign. */
        private int worthUnder(int c, int sign, int kind) {
            if (sign == DAM) {
                return 0;
            }
            int[] of = worth[kind];
            int left = hill.partsLeft(sign, kind);
            int right = hill.partsRight(sign, kind);
            int all = left * of[hill.belowLeft(c)] + right * of[hill.belowRight(c)]
                + (PARTS - left - right) * of[c + hill.wide];
            return all / PARTS;
        }

        int expected(int p) {
            appraiseAll(p);
            int all = 0;
            for (int v = 0; v < votes.count; v++) {
                all += worth[votes.kinds[v]][votes.columns[v]];
            }
            return all;
        }

        int bestStart(int kind, int p) {
            appraise(kind, p);
            int best = 0;
            for (int column = 1; column < hill.wide; column++) {
                if (worth[kind][column] > worth[kind][best]) {
                    best = column;
                }
            }
            return best;
        }

        /** Ten times the cell and the sign, or NONE. */
        int bestMove(int p) {
            dropAll(true);
            appraiseAll(p);
            long most = 0;
            int best = NONE;
            for (int c = 0; c < hill.cells(); c++) {
                for (int sign = 0; sign < SIGNS; sign++) {
                    long more = gain(c, sign);
                    if (more > most) {
                        most = more;
                        best = 10 * c + sign;
                    }
                }
            }
            return best;
        }

        /** How much more is expected by a sign: a vote comes to a cell once, so only what passes there changes. */
        private long gain(int c, int sign) {
            long all = 0;
            for (int kind = 0; kind < KINDS; kind++) {
                if (passing[kind][c] > 0) {
                    long more = worthUnder(c, sign, kind) - worth[kind][c];
                    all += passing[kind][c] * more;
                }
            }
            return all;
        }

        /** The trough, or STICKS. */
        int likeliestEnd(int v) {
            int kind = votes.kinds[v];
            drop(kind, votes.columns[v]);
            int best = 0;
            for (int t = 1; t < hill.wide; t++) {
                if (arrived(kind, t) > arrived(kind, best)) {
                    best = t;
                }
            }
            return stuck(kind) > arrived(kind, best) ? STICKS : best;
        }

        int tallyOf(int p) {
            findLeanings();
            tallyWithout(NONE);
            return tallies[p];
        }

        int winnerOfAll() {
            findLeanings();
            return winnerWithout(NONE);
        }

        /** As a set: votes without each of which another party won. */
        int votesItHangsOn() {
            findLeanings();
            int winner = winnerWithout(NONE);
            int hangs = 0;
            for (int v = 0; v < votes.count; v++) {
                if (winnerWithout(v) != winner) {
                    hangs |= 1 << v;
                }
            }
            return hangs;
        }

        private void findLeanings() {
            for (int v = 0; v < votes.count; v++) {
                int end = likeliestEnd(v);
                leanings[v] = end == STICKS ? NONE : hill.parties[end];
            }
        }

        private int winnerWithout(int leftOut) {
            tallyWithout(leftOut);
            int best = 0;
            for (int p = 1; p < PARTIES; p++) {
                if (tallies[p] > tallies[best]) {
                    best = p;
                }
            }
            return best;
        }

        private void tallyWithout(int leftOut) {
            Arrays.fill(tallies, 0);
            for (int v = 0; v < votes.count; v++) {
                if (v != leftOut && leanings[v] != NONE) {
                    tallies[leanings[v]]++;
                }
            }
        }

        /** As a set: dams that some vote can come to, if they hold or let all pass. */
        long damsReached(boolean damsHold) {
            dropAll(damsHold);
            long reached = 0;
            for (int c = 0; c < hill.cells(); c++) {
                boolean isReached = passing[MARBLE][c] > 0 || passing[HEAVY][c] > 0 || passing[LEAD][c] > 0;
                if (hill.signs[c] == DAM && isReached) {
                    reached |= 1L << c;
                }
            }
            return reached;
        }

        /** As a set: where a vote can have come to. */
        int endsOf(int v) {
            int kind = votes.kinds[v];
            drop(kind, votes.columns[v]);
            int ends = stuck(kind) > 0 ? 1 << STICKS : 0;
            for (int t = 0; t < hill.wide; t++) {
                if (arrived(kind, t) > 0) {
                    ends |= 1 << t;
                }
            }
            return ends;
        }

        int fairColumns() {
            int fair = 0;
            for (int column = 0; column < hill.wide; column++) {
                if (isFair(column)) {
                    fair |= 1 << column;
                }
            }
            return fair;
        }

        private boolean isFair(int column) {
            drop(MARBLE, column);
            Arrays.fill(shares, 0);
            for (int t = 0; t < hill.wide; t++) {
                shares[hill.parties[t]] += arrived(MARBLE, t);
            }
            int first = shares[hill.parties[0]];
            for (int p = 0; p < PARTIES; p++) {
                if (hill.hasTroughOf(p) && shares[p] != first) {
                    return false;
                }
            }
            return true;
        }
    }

    /** What was counted at each end, and the rows of ends, one for each vote, by which it can be so. */
    private static final class Count {
        private final int[] told = new int[ENDS];
        private final int[] ends = new int[MOST_VOTES];
        private final int[] used = new int[ENDS];
        private final int[] strides = new int[ENDS];
        private final int[] rowsTo = new int[MOST_STATES];

        /** Whether as many as there are votes were counted in all, none of the numbers below 0. */
        boolean take(Sheet sheet, int from, int wide, int votes) {
            Arrays.fill(told, 0);
            int sum = 0;
            for (int k = 0; k <= wide; k++) {
                int number = sheet.at(from + k);
                if (number < 0 || number > votes - sum) {
                    return false;
                }
                told[k < wide ? k : STICKS] = number;
                sum += number;
            }
            return sum == votes;
        }

        /**
         * How many rows there are. A state tells how many of each end are used up, by as many votes, the
         * first ones; its number is all of these by their strides. Each state leads to greater ones alone.
         */
        int rows() {
            int states = layOut();
            if (states > MOST_STATES) {
                return 0;
            }
            Arrays.fill(rowsTo, 0);
            Arrays.fill(used, 0);
            rowsTo[0] = 1;
            for (int state = 0; state < states - 1; state++) {
                placeNextVote(state);
                nextUsed();
            }
            return rowsTo[states - 1];
        }

        private int layOut() {
            int states = 1;
            for (int end = 0; end < ENDS; end++) {
                strides[end] = states;
                states *= told[end] + 1;
            }
            return states;
        }

        private void placeNextVote(int state) {
            int vote = 0;
            for (int end = 0; end < ENDS; end++) {
                vote += used[end];
            }
            for (int end = 0; end < ENDS; end++) {
                if (used[end] < told[end] && vote < MOST_VOTES && (ends[vote] >> end & 1) == 1) {
                    rowsTo[state + strides[end]] += rowsTo[state];
                }
            }
        }

        private void nextUsed() {
            for (int end = 0; end < ENDS; end++) {
                if (used[end] < told[end]) {
                    used[end]++;
                    return;
                }
                used[end] = 0;
            }
        }

        /** As a set: the ends of one vote by all the rows. */
        int endsOfRows(int v) {
            int can = ends[v];
            int where = 0;
            for (int end = 0; end < ENDS; end++) {
                ends[v] = can & 1 << end;
                if (ends[v] != 0 && rows() > 0) {
                    where |= 1 << end;
                }
            }
            ends[v] = can;
            return where;
        }
    }
}
