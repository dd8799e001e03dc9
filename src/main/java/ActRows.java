import java.util.Arrays;

/**
 * Acts of functions gathered in rows: programs told in a text, runs of them, what may come out of
 * them, and what can be said of them by what came out.
 */
public final class ActRows {
    public static final int UNKNOWN = -1, OUTSIDE = -2, STATE = -3, FULL = -4, NONE = -9;
    public static final long LOST = Long.MIN_VALUE;

    private static final int ACTS = 4;
    /** What comes out where no act does; it stands behind the acts, as readings tell it. */
    private static final int NOTHING = 4;
    private static final int SETS = 16;
    private static final int CALL = 4;

    private static final int PLAIN = 0;
    private static final int LEAVING = 1;
    private static final int KEEPING = 2;
    private static final int KINDS = 3;

    private static final int MOST_FUNCTIONS = 5;
    private static final int MOST_STEPS = 4;
    private static final int MOST_READINGS = 8;
    private static final int MOST_PAIRS = 20;
    private static final int MOST_CELLS = 60;
    private static final int SHEETS = 4;
    private static final int LANES = 3;

    private static final int NO_FAULT = 0;
    private static final int NULL = 1;
    private static final int CAST = 2;
    private static final int INDEX = 3;
    private static final int SIZE = 4;

    private final Sheet[] sheets = new Sheet[SHEETS];
    private final Text text = new Text();
    private final Trial trial = new Trial();
    private final Program told = trial.program;
    private final Day today = new Day();
    private final Readings readings = new Readings();
    private int lastFault = NO_FAULT;
    private int traced = 0;

    public ActRows() {
        for (int k = 0; k < SHEETS; k++) {
            sheets[k] = new Sheet();
        }
    }

    // ---- 1 the program

    public int program(int sheet, int lane, int i, int n) {
        lastFault = NO_FAULT;
        if (!isSheet(sheet)) {
            return UNKNOWN;
        }
        if (!isLane(lane)) {
            return OUTSIDE;
        }
        Sheet row = sheets[sheet];
        int met = row.faultOfTaking(lane, i, n);
        if (met != NO_FAULT) {
            return faulted(met);
        }
        int place = text.firstFault(row, i, n);
        if (place != Text.TAKEN) {
            return -100 - place;
        }
        told.become(text.draft);
        readings.takeBack(readings.count);
        return told.count;
    }

    public int ofFunction(int f, int what) {
        if (!told.has(f)) {
            return UNKNOWN;
        }
        switch (what) {
            case 0:
                return told.kinds[f];
            case 1:
                return told.guarded[f];
            case 2:
                return told.lengths[f];
            case 3:
                trial.begin();
                return trial.rowOf(f);
            case 4:
                trial.begin();
                return trial.mayOf(f);
            default:
                return OUTSIDE;
        }
    }

    public int step(int f, int i) {
        return told.hasStep(f, i) ? told.stepAt(f, i) : UNKNOWN;
    }

    public int patch(int f, int i, int v) {
        if (!told.hasStep(f, i)) {
            return UNKNOWN;
        }
        // Only functions ahead of f may be called, so that every run ends.
        if (v < 0 || v >= CALL + f) {
            return OUTSIDE;
        }
        int was = told.stepAt(f, i);
        told.setStep(f, i, v);
        return was;
    }

    public int guard(int f, int act) {
        if (!told.has(f)) {
            return UNKNOWN;
        }
        if (!isAct(act)) {
            return OUTSIDE;
        }
        int was = told.guarded[f];
        told.guarded[f] = act;
        return was;
    }

    public int live(int set) {
        if (!isSet(set)) {
            return OUTSIDE;
        }
        if (told.isNone()) {
            return STATE;
        }
        int was = told.live;
        told.live = set;
        return was;
    }

    // ---- 2 runs

    public int run(int f, int what) {
        if (!told.has(f)) {
            return UNKNOWN;
        }
        if (what < 0 || what > 3) {
            return OUTSIDE;
        }
        trial.begin();
        trial.settleAll();
        switch (what) {
            case 0:
                return trial.outs[f] == NOTHING ? NONE : trial.outs[f];
            case 1:
                return trial.actCounts[f];
            case 2:
                return trial.endCounts[f];
            default:
                return trial.pathLength(f);
        }
    }

    public int performed(int f, int k) {
        if (!told.has(f)) {
            return UNKNOWN;
        }
        if (k < 0) {
            return OUTSIDE;
        }
        trial.begin();
        trial.settleAll();
        return trial.actAt(f, k);
    }

    public int path(int f, int k) {
        if (!told.has(f)) {
            return UNKNOWN;
        }
        if (k < 0 || k >= MOST_FUNCTIONS) {
            return OUTSIDE;
        }
        trial.begin();
        trial.settleAll();
        return trial.pathAt(f, k);
    }

    public int day(int sheet, int lane, int i, int n, int what) {
        lastFault = NO_FAULT;
        if (!isSheet(sheet)) {
            return UNKNOWN;
        }
        if (!isLane(lane) || n < 0 || n > MOST_PAIRS || !Day.isQuestion(what)) {
            return OUTSIDE;
        }
        if (told.isNone()) {
            return STATE;
        }
        Sheet row = sheets[sheet];
        int met = row.faultOfTaking(lane, i, 2 * n);
        if (met != NO_FAULT) {
            return faulted(met);
        }
        if (!Day.isTold(row, i, n)) {
            return OUTSIDE;
        }
        today.pass(trial, row, i, n);
        return today.answer(trial, what);
    }

    // ---- 3 rows

    public int witness(int f, int act) {
        if (!told.has(f)) {
            return UNKNOWN;
        }
        if (!isAct(act)) {
            return OUTSIDE;
        }
        trial.begin();
        for (int set = 0; set < SETS; set++) {
            trial.settleBy(set);
            if (trial.outs[f] == act) {
                return set;
            }
        }
        return NONE;
    }

    public int free(int f, int g) {
        if (!told.has(f) || !told.has(g)) {
            return UNKNOWN;
        }
        trial.begin();
        for (int set = 0; set < SETS; set++) {
            trial.settleBy(set);
            if (trial.firstOut(f, g) != trial.firstOut(g, f)) {
                return 0;
            }
        }
        return 1;
    }

    public int plugs(int f) {
        if (!told.has(f)) {
            return UNKNOWN;
        }
        trial.begin();
        return trial.plugsOf(f);
    }

    public int more(int f, int g) {
        if (!told.has(f) || !told.has(g)) {
            return UNKNOWN;
        }
        int sets = 0;
        trial.begin();
        for (int set = 0; set < SETS; set++) {
            trial.settleBy(set);
            if (trial.outs[f] != NOTHING && trial.outs[g] != trial.outs[f]) {
                sets++;
            }
        }
        return sets;
    }

    // ---- 4 what came out

    public int reading(int f, int out) {
        if (!told.has(f)) {
            return UNKNOWN;
        }
        if (!isOut(out)) {
            return OUTSIDE;
        }
        return readings.add(f, out);
    }

    public int back(int k) {
        if (k < 0 || k > readings.count) {
            return OUTSIDE;
        }
        readings.takeBack(k);
        return readings.count;
    }

    public int kinds(int f) {
        if (!told.has(f)) {
            return UNKNOWN;
        }
        int found = 0;
        trial.begin();
        for (int kind = 0; kind < KINDS; kind++) {
            trial.kinds[f] = kind;
            if (readings.areSo(trial)) {
                found |= 1 << kind;
            }
        }
        return found;
    }

    public int guards(int f) {
        if (!told.has(f)) {
            return UNKNOWN;
        }
        int found = 0;
        trial.begin();
        for (int act = 0; act < ACTS; act++) {
            trial.guarded[f] = act;
            if (readings.areSo(trial)) {
                found |= 1 << act;
            }
        }
        return found;
    }

    public int lives() {
        if (told.isNone()) {
            return STATE;
        }
        int found = 0;
        trial.begin();
        for (int set = 0; set < SETS; set++) {
            trial.live = set;
            if (readings.areSo(trial)) {
                found |= 1 << set;
            }
        }
        return found;
    }

    public long odds(int f, int out, int which) {
        if (!told.has(f) || !isOut(out) || which < 0 || which > 1) {
            return LOST;
        }
        trial.begin();
        int upper = trial.setsThatLetOut(f, out);
        int lower = SETS;
        // The lower number is a power of two: only halving can bring the share to least terms.
        while (lower > 1 && upper % 2 == 0) {
            upper /= 2;
            lower /= 2;
        }
        return which == 0 ? upper : lower;
    }

    // ---- 5 sheets, parts

    public int sheet(int k, int lane, int n) {
        lastFault = NO_FAULT;
        if (!isSheet(k)) {
            return UNKNOWN;
        }
        if (!isLane(lane) || n > MOST_CELLS) {
            return OUTSIDE;
        }
        if (n < 0) {
            return faulted(SIZE);
        }
        sheets[k].renew(lane, n);
        return 1;
    }

    public int lose(int k) {
        if (!isSheet(k)) {
            return UNKNOWN;
        }
        if (sheets[k].hasNothing()) {
            return 0;
        }
        sheets[k].drop();
        return 1;
    }

    public int put(int k, int i, int v) {
        lastFault = NO_FAULT;
        if (!isSheet(k)) {
            return UNKNOWN;
        }
        Sheet row = sheets[k];
        if (row.hasNothing()) {
            return faulted(NULL);
        }
        if (!row.hasCells(i, 1)) {
            return faulted(INDEX);
        }
        row.setCell(i, v);
        return 1;
    }

    public long cell(int k, int i, int lane) {
        lastFault = NO_FAULT;
        if (!isSheet(k) || !isLane(lane)) {
            return LOST;
        }
        Sheet row = sheets[k];
        lastFault = row.faultOfTaking(lane, i, 1);
        return lastFault == NO_FAULT ? row.cellAt(i) : LOST;
    }

    public int copy(int k, int i, int other, int j, int n) {
        lastFault = NO_FAULT;
        if (!isSheet(k) || !isSheet(other)) {
            return UNKNOWN;
        }
        Sheet from = sheets[k];
        Sheet to = sheets[other];
        if (from.hasNothing() || to.hasNothing()) {
            return faulted(NULL);
        }
        if (from.lane != to.lane) {
            return faulted(CAST);
        }
        if (!from.hasCells(i, n) || !to.hasCells(j, n)) {
            return faulted(INDEX);
        }
        System.arraycopy(from.cells, i, to.cells, j, n);
        return n;
    }

    public int tell(int f) {
        if (!told.has(f)) {
            return UNKNOWN;
        }
        switch (told.kinds[f]) {
            case LEAVING:
                return tellLeaving(f);
            case KEEPING:
                return tellKeeping(f);
            default:
                return tellPlain(f);
        }
    }

    public int name(int f) {
        if (!told.has(f)) {
            return UNKNOWN;
        }
        if (told.kinds[f] == KEEPING) {
            leaveInTrace(5);
            return 60;
        }
        leaveInTrace(4);
        return f;
    }

    public int as(int f, int kind) {
        lastFault = NO_FAULT;
        if (!told.has(f)) {
            return UNKNOWN;
        }
        if (kind < 0 || kind >= KINDS) {
            return OUTSIDE;
        }
        // Each kind is one of all kinds below it.
        return told.kinds[f] >= kind ? 1 : faulted(CAST);
    }

    public int trace() {
        return traced;
    }

    public int fault() {
        return lastFault;
    }

    public int many(int what) {
        switch (what) {
            case 0:
                return told.count;
            case 1:
                return told.stepsOfAll();
            case 2:
                return Integer.bitCount(told.live);
            case 3:
                trial.begin();
                trial.settleAll();
                return trial.howManyLetOut();
            case 4:
                return readings.count;
            default:
                return OUTSIDE;
        }
    }

    // ---- what the calls share

    private static boolean isSheet(int k) {
        return k >= 0 && k < SHEETS;
    }

    private static boolean isLane(int lane) {
        return lane >= 0 && lane < LANES;
    }

    private static boolean isAct(int act) {
        return act >= 0 && act < ACTS;
    }

    private static boolean isOut(int out) {
        return out >= 0 && out <= NOTHING;
    }

    private static boolean isSet(int set) {
        return set >= 0 && set < SETS;
    }

    private int faulted(int which) {
        lastFault = which;
        return -10 - which;
    }

    private void leaveInTrace(int number) {
        traced = 31 * traced + number;
    }

    private int tellPlain(int f) {
        leaveInTrace(1);
        return told.lengths[f];
    }

    private int tellLeaving(int f) {
        leaveInTrace(2);
        return tellPlain(f) + 100;
    }

    private int tellKeeping(int f) {
        leaveInTrace(3);
        int byLeaving = tellLeaving(f);
        return byLeaving + tellPlain(f);
    }

    /** A row of cells of a lane, or nothing. The cells are made once and used for every new row. */
    private static final class Sheet {
        private static final int NO_LANE = -1;

        private final int[] cells = new int[MOST_CELLS];
        private int lane = NO_LANE;
        private int length = 0;

        boolean hasNothing() {
            return lane == NO_LANE;
        }

        void renew(int newLane, int n) {
            lane = newLane;
            length = n;
            Arrays.fill(cells, 0);
        }

        void drop() {
            lane = NO_LANE;
            length = 0;
        }

        /** Tests by a difference, as the sum of i and n may wrap. */
        boolean hasCells(int i, int n) {
            return i >= 0 && i <= length && n >= 0 && n <= length - i;
        }

        int faultOfTaking(int asLane, int i, int n) {
            if (hasNothing()) {
                return NULL;
            }
            if (lane != asLane) {
                return CAST;
            }
            if (n < 0) {
                return SIZE;
            }
            return hasCells(i, n) ? NO_FAULT : INDEX;
        }

        int cellAt(int i) {
            return hasCells(i, 1) ? cells[i] : 0;
        }

        void setCell(int i, int v) {
            if (hasCells(i, 1)) {
                cells[i] = cutToLane(v);
            }
        }

        private int cutToLane(int v) {
            switch (lane) {
                case 0:
                    return (byte) v;
                case 1:
                    return (short) v;
                default:
                    return v;
            }
        }
    }

    /** Functions with their kinds, guards and steps, and the acts that are live. */
    private static final class Program {
        private final int[] kinds = new int[MOST_FUNCTIONS];
        private final int[] guarded = new int[MOST_FUNCTIONS];
        private final int[] lengths = new int[MOST_FUNCTIONS];
        private final int[] steps = new int[MOST_FUNCTIONS * MOST_STEPS];
        private int count = 0;
        private int live = 0;

        boolean isNone() {
            return count == 0;
        }

        boolean has(int f) {
            return f >= 0 && f < count;
        }

        boolean hasStep(int f, int i) {
            return has(f) && i >= 0 && i < lengths[f];
        }

        int stepAt(int f, int i) {
            return hasStep(f, i) ? steps[f * MOST_STEPS + i] : UNKNOWN;
        }

        void setStep(int f, int i, int v) {
            if (hasStep(f, i)) {
                steps[f * MOST_STEPS + i] = v;
            }
        }

        int stepsOfAll() {
            int all = 0;
            for (int f = 0; f < count; f++) {
                all += lengths[f];
            }
            return all;
        }

        void clear() {
            count = 0;
            live = SETS - 1;
        }

        boolean addFunction() {
            if (count >= MOST_FUNCTIONS) {
                return false;
            }
            lengths[count] = 0;
            count++;
            return true;
        }

        boolean addStep(int f, int v) {
            if (!has(f) || lengths[f] >= MOST_STEPS) {
                return false;
            }
            steps[f * MOST_STEPS + lengths[f]] = v;
            lengths[f]++;
            return true;
        }

        void become(Program other) {
            System.arraycopy(other.kinds, 0, kinds, 0, MOST_FUNCTIONS);
            System.arraycopy(other.guarded, 0, guarded, 0, MOST_FUNCTIONS);
            System.arraycopy(other.lengths, 0, lengths, 0, MOST_FUNCTIONS);
            System.arraycopy(other.steps, 0, steps, 0, MOST_FUNCTIONS * MOST_STEPS);
            count = other.count;
            live = other.live;
        }
    }

    /** Reads a text into a draft, so that a text with a fault leaves the program as it was. */
    private static final class Text {
        static final int TAKEN = -1;

        private static final int AT_START = 0;
        private static final int AT_FIRST_FUNCTION = 1;
        private static final int AT_KIND = 2;
        private static final int AT_GUARD = 3;
        private static final int AT_STEP = 4;

        private final Program draft = new Program();
        private int at = AT_START;

        int firstFault(Sheet row, int i, int n) {
            draft.clear();
            at = AT_START;
            for (int place = 0; place < n; place++) {
                if (!goesOnWith(row.cellAt(i + place))) {
                    return place;
                }
            }
            return at == AT_STEP ? TAKEN : n;
        }

        private boolean goesOnWith(int code) {
            switch (at) {
                case AT_START:
                    at = AT_FIRST_FUNCTION;
                    return code == 'e';
                case AT_FIRST_FUNCTION:
                    return takesFunction(code);
                case AT_KIND:
                    return takesKind(code);
                case AT_GUARD:
                    return takesGuard(code);
                default:
                    return code == ';' ? takesFunction(code) : takesStep(code);
            }
        }

        private boolean takesFunction(int code) {
            at = AT_KIND;
            return code == ';' && draft.addFunction();
        }

        private boolean takesKind(int code) {
            int kind = kindOf(code);
            int f = draft.count - 1;
            if (kind < 0 || !draft.has(f)) {
                return false;
            }
            draft.kinds[f] = kind;
            at = AT_GUARD;
            return true;
        }

        private static int kindOf(int code) {
            switch (code) {
                case 'p':
                    return PLAIN;
                case 'l':
                    return LEAVING;
                case 'k':
                    return KEEPING;
                default:
                    return -1;
            }
        }

        private boolean takesGuard(int code) {
            int f = draft.count - 1;
            if (code < '0' || code >= '0' + ACTS || !draft.has(f)) {
                return false;
            }
            draft.guarded[f] = code - '0';
            at = AT_STEP;
            return true;
        }

        private boolean takesStep(int code) {
            int f = draft.count - 1;
            if (code >= 'a' && code < 'a' + ACTS) {
                return draft.addStep(f, code - 'a');
            }
            return code >= '0' && code < '0' + f && draft.addStep(f, CALL + code - '0');
        }
    }

    /**
     * A program tried with kinds, guards and live acts of its own. A function calls only those ahead
     * of it and a run changes nothing, so each function is settled once, from 0 on, and what a call
     * of it brings is looked up from then on.
     */
    private static final class Trial {
        private static final int OWN_STEP = -1;

        private final Program program = new Program();
        private final int[] kinds = new int[MOST_FUNCTIONS];
        private final int[] guarded = new int[MOST_FUNCTIONS];
        private int live = 0;
        private final int[] outs = new int[MOST_FUNCTIONS];
        private final int[] actCounts = new int[MOST_FUNCTIONS];
        private final int[] endCounts = new int[MOST_FUNCTIONS];
        private final int[] sources = new int[MOST_FUNCTIONS];
        private final int[] rows = new int[MOST_FUNCTIONS];

        /** Everything is as the program has it now. */
        void begin() {
            System.arraycopy(program.kinds, 0, kinds, 0, MOST_FUNCTIONS);
            System.arraycopy(program.guarded, 0, guarded, 0, MOST_FUNCTIONS);
            live = program.live;
        }

        void settleBy(int set) {
            live = set;
            settleAll();
        }

        void settleAll() {
            for (int f = 0; f < program.count; f++) {
                settle(f);
            }
        }

        private void settle(int f) {
            outs[f] = NOTHING;
            sources[f] = OWN_STEP;
            actCounts[f] = 0;
            endCounts[f] = 1;
            for (int i = 0; i < program.lengths[f]; i++) {
                int v = program.stepAt(f, i);
                int out = outOfStep(v);
                countStep(f, v);
                if (out == NOTHING) {
                    continue;
                }
                if (!guardsAgainst(f, out)) {
                    outs[f] = out;
                    sources[f] = v < CALL ? OWN_STEP : v - CALL;
                    return;
                }
                if (kinds[f] == LEAVING) {
                    return;
                }
            }
        }

        private boolean isLive(int act) {
            return (live >> act & 1) == 1;
        }

        private boolean guardsAgainst(int f, int act) {
            return kinds[f] != PLAIN && guarded[f] == act;
        }

        private int outOfStep(int v) {
            if (program.has(v - CALL)) {
                return outs[v - CALL];
            }
            return isLive(v) ? v : NOTHING;
        }

        private int actsOfStep(int v) {
            if (program.has(v - CALL)) {
                return actCounts[v - CALL];
            }
            return isLive(v) ? 1 : 0;
        }

        private void countStep(int f, int v) {
            actCounts[f] += actsOfStep(v);
            if (program.has(v - CALL)) {
                endCounts[f] += endCounts[v - CALL];
            }
        }

        int firstOut(int f, int g) {
            return outs[f] != NOTHING ? outs[f] : outs[g];
        }

        int howManyLetOut() {
            int many = 0;
            for (int f = 0; f < program.count; f++) {
                if (outs[f] != NOTHING) {
                    many++;
                }
            }
            return many;
        }

        int pathAt(int f, int k) {
            if (outs[f] == NOTHING) {
                return NONE;
            }
            int at = f;
            for (int place = 0; place < k && at != OWN_STEP; place++) {
                at = program.has(at) ? sources[at] : OWN_STEP;
            }
            return at == OWN_STEP ? NONE : at;
        }

        int pathLength(int f) {
            int length = 0;
            while (length < MOST_FUNCTIONS && pathAt(f, length) != NONE) {
                length++;
            }
            return length;
        }

        /** The k-th act performed: goes down into the called function within whose acts it falls. */
        int actAt(int f, int k) {
            if (k >= actCounts[f]) {
                return NONE;
            }
            int at = f;
            int left = k;
            for (int depth = 0; depth < MOST_FUNCTIONS; depth++) {
                int i = stepWithAct(at, left);
                int v = program.stepAt(at, i);
                if (v < CALL) {
                    return v;
                }
                left -= actsAheadOf(at, i);
                at = v - CALL;
            }
            return NONE;
        }

        private int stepWithAct(int f, int k) {
            int i = 0;
            while (i < MOST_STEPS && actsAheadOf(f, i + 1) <= k) {
                i++;
            }
            return i;
        }

        private int actsAheadOf(int f, int i) {
            int acts = 0;
            for (int before = 0; before < i && program.hasStep(f, before); before++) {
                acts += actsOfStep(program.stepAt(f, before));
            }
            return acts;
        }

        private void gatherRows() {
            for (int f = 0; f < program.count; f++) {
                int row = 0;
                for (int i = 0; i < program.lengths[f]; i++) {
                    int v = program.stepAt(f, i);
                    row |= program.has(v - CALL) ? rows[v - CALL] : 1 << v;
                }
                rows[f] = kinds[f] == PLAIN ? row : row & ~(1 << guarded[f]);
            }
        }

        int rowOf(int f) {
            gatherRows();
            return rows[f];
        }

        int rowOfAll() {
            gatherRows();
            int all = 0;
            for (int f = 0; f < program.count; f++) {
                all |= rows[f];
            }
            return all;
        }

        int mayOf(int f) {
            int may = 0;
            for (int set = 0; set < SETS; set++) {
                settleBy(set);
                if (outs[f] != NOTHING) {
                    may |= 1 << outs[f];
                }
            }
            return may;
        }

        int setsThatLetOut(int f, int out) {
            int sets = 0;
            for (int set = 0; set < SETS; set++) {
                settleBy(set);
                if (outs[f] == out) {
                    sets++;
                }
            }
            return sets;
        }

        int plugsOf(int f) {
            int beyondAll = MOST_FUNCTIONS + 1;
            int fewest = fewestPlugs(f, 0, 0, beyondAll);
            return fewest == beyondAll ? NONE : fewest;
        }

        /**
         * Goes through all ways in which the functions from at to f stay or become keeping ones,
         * behind those ahead of at, of which used have become such; best is the fewest found so far.
         */
        private int fewestPlugs(int f, int at, int used, int best) {
            if (used >= best) {
                return best;
            }
            if (at > f || at >= MOST_FUNCTIONS) {
                return outs[f] == NOTHING ? used : best;
            }
            kinds[at] = program.kinds[at];
            guarded[at] = program.guarded[at];
            settle(at);
            // Behind at only what comes out of it counts: each such out is gone through once.
            int tried = 1 << outs[at];
            int fewest = fewestPlugs(f, at + 1, used, best);
            kinds[at] = KEEPING;
            for (int act = 0; act < ACTS; act++) {
                guarded[at] = act;
                settle(at);
                if ((tried >> outs[at] & 1) == 0) {
                    tried |= 1 << outs[at];
                    fewest = fewestPlugs(f, at + 1, used + 1, fewest);
                }
            }
            return fewest;
        }
    }

    /** A day of pairs, passed on a trial so that the program stays as it is. */
    private static final class Day {
        /** The second of a pair: below PAIR_LIVE it is a function to be run. */
        private static final int PAIR_LIVE = 5;
        private static final int PAIR_GUARD = 6;
        private static final int PAIR_LAST = 10;

        private int acts = 0;
        private int ends = 0;
        private int firstWrong = NONE;

        static boolean isQuestion(int what) {
            return what >= 0 && what <= 4 || what >= 10 && what < 10 + MOST_FUNCTIONS;
        }

        static boolean isTold(Sheet row, int i, int n) {
            for (int pair = 0; pair < n; pair++) {
                int first = row.cellAt(i + 2 * pair);
                int second = row.cellAt(i + 2 * pair + 1);
                if (second < 0 || second > PAIR_LAST || first < 0 || first >= firstsWith(second)) {
                    return false;
                }
            }
            return true;
        }

        /** How many firsts, from 0 on, may stand with a second. */
        private static int firstsWith(int second) {
            if (second == PAIR_LIVE) {
                return SETS;
            }
            return second < PAIR_LIVE ? 1 : ACTS;
        }

        void pass(Trial trial, Sheet row, int i, int n) {
            acts = 0;
            ends = 0;
            firstWrong = NONE;
            trial.begin();
            for (int pair = 0; pair < n && firstWrong == NONE; pair++) {
                int first = row.cellAt(i + 2 * pair);
                int second = row.cellAt(i + 2 * pair + 1);
                if (!comesRight(trial, first, second)) {
                    firstWrong = pair;
                }
            }
        }

        private boolean comesRight(Trial trial, int first, int second) {
            if (second == PAIR_LIVE) {
                trial.live = first;
                return true;
            }
            if (second < PAIR_LIVE) {
                return trial.program.has(second) && lastsThroughRun(trial, second);
            }
            int f = second - PAIR_GUARD;
            if (!trial.program.has(f)) {
                return false;
            }
            trial.guarded[f] = first;
            return true;
        }

        private boolean lastsThroughRun(Trial trial, int f) {
            trial.settleAll();
            acts += trial.actCounts[f];
            ends += trial.endCounts[f];
            return trial.outs[f] == NOTHING;
        }

        int answer(Trial trial, int what) {
            if (what == 1) {
                return firstWrong;
            }
            if (firstWrong != NONE) {
                return -100 - firstWrong;
            }
            switch (what) {
                case 0:
                    return acts;
                case 2:
                    return ends;
                case 3:
                    return trial.live;
                case 4:
                    return trial.rowOfAll();
                default:
                    return trial.program.has(what - 10) ? trial.guarded[what - 10] : NONE;
            }
        }
    }

    /** Functions and what came out of them, tried against how all is when it is asked. */
    private static final class Readings {
        private final int[] functions = new int[MOST_READINGS];
        private final int[] outs = new int[MOST_READINGS];
        private int count = 0;

        int add(int f, int out) {
            if (count >= MOST_READINGS) {
                return FULL;
            }
            functions[count] = f;
            outs[count] = out;
            count++;
            return count - 1;
        }

        void takeBack(int k) {
            count = Math.max(0, count - k);
        }

        boolean areSo(Trial trial) {
            trial.settleAll();
            for (int k = 0; k < count; k++) {
                int f = functions[k];
                if (!trial.program.has(f) || trial.outs[f] != outs[k]) {
                    return false;
                }
            }
            return true;
        }
    }
}
