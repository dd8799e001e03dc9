import java.util.ArrayList;
import java.util.List;
import java.util.regex.Matcher;
import java.util.regex.Pattern;

/**
 * The document once more, in its plainest form: every run is done step by step, every share and set
 * is counted out. It shares no way of working with ActRows, which looks up what it has settled.
 */
final class Model {
    static final int UNKNOWN = -1, OUTSIDE = -2, STATE = -3, FULL = -4, NONE = -9;
    static final int NULL = 1, CAST = 2, INDEX = 3, SIZE = 4;
    static final int NOTHING = 4;

    record Function(char kind, int guard, List<Integer> steps) {
        Function(Function other) {
            this(other.kind, other.guard, new ArrayList<>(other.steps));
        }

        Function as(char newKind, int newGuard) {
            return new Function(newKind, newGuard, steps);
        }
    }

    record Reading(int f, int out) {
    }

    /** What a run leaves behind. */
    static final class Run {
        final List<Integer> acts = new ArrayList<>();
        final List<Integer> path = new ArrayList<>();
        int ends = 0;
        int out = NOTHING;
    }

    List<Function> functions = new ArrayList<>();
    int live = 0;
    final List<Reading> readings = new ArrayList<>();
    final Object[] sheets = new Object[4];
    int fault = 0;
    int trace = 0;

    // ---- runs

    static Run run(List<Function> functions, int live, int f) {
        Run run = new Run();
        run.out = enter(functions, live, f, run);
        return run;
    }

    private static int enter(List<Function> functions, int live, int f, Run run) {
        try {
            Function function = functions.get(f);
            for (int step : function.steps) {
                int out = NOTHING;
                if (step >= 4) {
                    out = enter(functions, live, step - 4, run);
                } else if ((live & 1 << step) != 0) {
                    run.acts.add(step);
                    run.path.clear();
                    out = step;
                }
                if (out == NOTHING) {
                    continue;
                }
                boolean guards = function.kind != 'p' && function.guard == out;
                if (!guards) {
                    run.path.add(0, f);
                    return out;
                }
                run.path.clear();
                if (function.kind == 'l') {
                    return NOTHING;
                }
            }
            return NOTHING;
        } finally {
            run.ends++;
        }
    }

    int out(int set, int f) {
        return run(functions, set, f).out;
    }

    static int row(List<Function> functions, int f) {
        int row = 0;
        Function function = functions.get(f);
        for (int step : function.steps) {
            row |= step < 4 ? 1 << step : row(functions, step - 4);
        }
        return function.kind == 'p' ? row : row & ~(1 << function.guard);
    }

    boolean has(int f) {
        return f >= 0 && f < functions.size();
    }

    List<Function> functionsWith(int f, Function changed) {
        List<Function> others = new ArrayList<>(functions);
        others.set(f, changed);
        return others;
    }

    boolean readingsAreSo(List<Function> asFunctions, int asLive) {
        return readings.stream().allMatch(r -> run(asFunctions, asLive, r.f).out == r.out);
    }

    // ---- 1

    private static final Pattern FUNCTION = Pattern.compile(";([plk])([0-3])([a-d0-9]*)");

    /** Whether a text is whole; null if it is none. */
    static List<Function> whole(String text) {
        if (!text.matches("e(;[plk][0-3][a-d0-3]{0,4}){1,5}")) {
            return null;
        }
        List<Function> taken = new ArrayList<>();
        Matcher m = FUNCTION.matcher(text);
        while (m.find()) {
            List<Integer> steps = new ArrayList<>();
            for (char c : m.group(3).toCharArray()) {
                boolean act = c >= 'a';
                if (!act && c - '0' >= taken.size()) {
                    return null;
                }
                steps.add(act ? c - 'a' : 4 + c - '0');
            }
            taken.add(new Function(m.group(1).charAt(0), m.group(2).charAt(0) - '0', steps));
        }
        return taken;
    }

    /** Whether some text begins so: it is one, or becomes one by what is least to be added. */
    static boolean begins(String text) {
        for (String rest : new String[] {"", "0", "p0", ";p0", "e;p0"}) {
            if (whole(text + rest) != null) {
                return true;
            }
        }
        return false;
    }

    static int firstFault(String text) {
        for (int n = 1; n <= text.length(); n++) {
            if (!begins(text.substring(0, n))) {
                return n - 1;
            }
        }
        return text.length();
    }

    int program(int sheet, int lane, int i, int n) {
        fault = 0;
        if (sheet < 0 || sheet > 3) return UNKNOWN;
        if (lane < 0 || lane > 2) return OUTSIDE;
        int met = met(sheet, lane, i, n);
        if (met != 0) return faulted(met);
        StringBuilder text = new StringBuilder();
        for (int k = i; k < i + n; k++) {
            long code = at(sheet, k);
            text.append(code >= 33 && code <= 126 ? (char) code : '?');
        }
        List<Function> taken = whole(text.toString());
        if (taken == null) return -100 - firstFault(text.toString());
        functions = taken;
        live = 15;
        readings.clear();
        return taken.size();
    }

    int ofFunction(int f, int what) {
        if (!has(f)) return UNKNOWN;
        Function function = functions.get(f);
        switch (what) {
            case 0: return "plk".indexOf(function.kind);
            case 1: return function.guard;
            case 2: return function.steps.size();
            case 3: return row(functions, f);
            case 4:
                int may = 0;
                for (int set = 0; set < 16; set++) {
                    may |= 1 << out(set, f);
                }
                return may & 15;
            default: return OUTSIDE;
        }
    }

    int step(int f, int i) {
        if (!has(f) || i < 0 || i >= functions.get(f).steps.size()) return UNKNOWN;
        return functions.get(f).steps.get(i);
    }

    int patch(int f, int i, int v) {
        if (!has(f) || i < 0 || i >= functions.get(f).steps.size()) return UNKNOWN;
        if (v < 0 || v > 3 && v - 4 >= f) return OUTSIDE;
        return functions.get(f).steps.set(i, v);
    }

    int guard(int f, int act) {
        if (!has(f)) return UNKNOWN;
        if (act < 0 || act > 3) return OUTSIDE;
        Function was = functions.get(f);
        functions.set(f, was.as(was.kind, act));
        return was.guard;
    }

    int live(int set) {
        if (set < 0 || set > 15) return OUTSIDE;
        if (functions.isEmpty()) return STATE;
        int was = live;
        live = set;
        return was;
    }

    // ---- 2

    int run(int f, int what) {
        if (!has(f)) return UNKNOWN;
        Run run = run(functions, live, f);
        switch (what) {
            case 0: return run.out == NOTHING ? NONE : run.out;
            case 1: return run.acts.size();
            case 2: return run.ends;
            case 3: return run.path.size();
            default: return OUTSIDE;
        }
    }

    int performed(int f, int k) {
        if (!has(f)) return UNKNOWN;
        if (k < 0) return OUTSIDE;
        List<Integer> acts = run(functions, live, f).acts;
        return k < acts.size() ? acts.get(k) : NONE;
    }

    int path(int f, int k) {
        if (!has(f)) return UNKNOWN;
        if (k < 0 || k > 4) return OUTSIDE;
        List<Integer> path = run(functions, live, f).path;
        return k < path.size() ? path.get(k) : NONE;
    }

    int day(int sheet, int lane, int i, int n, int what) {
        fault = 0;
        if (sheet < 0 || sheet > 3) return UNKNOWN;
        if (lane < 0 || lane > 2 || n < 0 || n > 20) return OUTSIDE;
        if (what < 0 || what > 4 && what < 10 || what > 14) return OUTSIDE;
        if (functions.isEmpty()) return STATE;
        int met = met(sheet, lane, i, 2 * n);
        if (met != 0) return faulted(met);
        for (int p = 0; p < n; p++) {
            long first = at(sheet, i + 2 * p);
            long second = at(sheet, i + 2 * p + 1);
            if (second < 0 || second > 10 || first < 0) return OUTSIDE;
            if (first > (second < 5 ? 0 : second == 5 ? 15 : 3)) return OUTSIDE;
        }
        List<Function> then = new ArrayList<>(functions);
        int liveThen = live;
        int acts = 0;
        int ends = 0;
        int wrong = NONE;
        for (int p = 0; p < n && wrong == NONE; p++) {
            int first = (int) at(sheet, i + 2 * p);
            int second = (int) at(sheet, i + 2 * p + 1);
            if (second == 5) {
                liveThen = first;
            } else if (!has(second < 5 ? second : second - 6)) {
                wrong = p;
            } else if (second > 5) {
                Function was = then.get(second - 6);
                then.set(second - 6, was.as(was.kind, first));
            } else {
                Run run = run(then, liveThen, second);
                acts += run.acts.size();
                ends += run.ends;
                wrong = run.out == NOTHING ? NONE : p;
            }
        }
        if (what == 1) return wrong;
        if (wrong != NONE) return -100 - wrong;
        if (what == 0) return acts;
        if (what == 2) return ends;
        if (what == 3) return liveThen;
        if (what >= 10) return has(what - 10) ? then.get(what - 10).guard : NONE;
        int rows = 0;
        for (int f = 0; f < then.size(); f++) {
            rows |= row(then, f);
        }
        return rows;
    }

    // ---- 3

    int witness(int f, int act) {
        if (!has(f)) return UNKNOWN;
        if (act < 0 || act > 3) return OUTSIDE;
        for (int set = 0; set < 16; set++) {
            if (out(set, f) == act) return set;
        }
        return NONE;
    }

    private int first(int set, int f, int g) {
        return out(set, f) == NOTHING ? out(set, g) : out(set, f);
    }

    int free(int f, int g) {
        if (!has(f) || !has(g)) return UNKNOWN;
        for (int set = 0; set < 16; set++) {
            if (first(set, f, g) != first(set, g, f)) return 0;
        }
        return 1;
    }

    /** Goes through all choices: of each function, that it stays (4) or keeps behind an act. */
    int plugs(int f) {
        if (!has(f)) return UNKNOWN;
        int fewest = 99;
        for (int choice = 0; choice < Math.pow(5, functions.size()); choice++) {
            List<Function> then = new ArrayList<>(functions);
            int used = 0;
            int rest = choice;
            for (int g = 0; g < then.size(); g++) {
                if (rest % 5 < 4) {
                    then.set(g, then.get(g).as('k', rest % 5));
                    used++;
                }
                rest /= 5;
            }
            if (used < fewest && run(then, live, f).out == NOTHING) fewest = used;
        }
        return fewest == 99 ? NONE : fewest;
    }

    int more(int f, int g) {
        if (!has(f) || !has(g)) return UNKNOWN;
        int sets = 0;
        for (int set = 0; set < 16; set++) {
            if (out(set, f) != NOTHING && out(set, f) != out(set, g)) sets++;
        }
        return sets;
    }

    // ---- 4

    int reading(int f, int out) {
        if (!has(f)) return UNKNOWN;
        if (out < 0 || out > 4) return OUTSIDE;
        if (readings.size() == 8) return FULL;
        readings.add(new Reading(f, out));
        return readings.size() - 1;
    }

    int back(int k) {
        if (k < 0 || k > readings.size()) return OUTSIDE;
        readings.subList(readings.size() - k, readings.size()).clear();
        return readings.size();
    }

    int kinds(int f) {
        if (!has(f)) return UNKNOWN;
        int found = 0;
        for (int kind = 0; kind < 3; kind++) {
            Function other = functions.get(f).as("plk".charAt(kind), functions.get(f).guard);
            if (readingsAreSo(functionsWith(f, other), live)) found |= 1 << kind;
        }
        return found;
    }

    int guards(int f) {
        if (!has(f)) return UNKNOWN;
        int found = 0;
        for (int act = 0; act < 4; act++) {
            Function other = functions.get(f).as(functions.get(f).kind, act);
            if (readingsAreSo(functionsWith(f, other), live)) found |= 1 << act;
        }
        return found;
    }

    int lives() {
        if (functions.isEmpty()) return STATE;
        int found = 0;
        for (int set = 0; set < 16; set++) {
            if (readingsAreSo(functions, set)) found |= 1 << set;
        }
        return found;
    }

    long odds(int f, int out, int which) {
        if (!has(f) || out < 0 || out > 4 || which < 0 || which > 1) return Long.MIN_VALUE;
        int upper = 0;
        for (int set = 0; set < 16; set++) {
            if (out(set, f) == out) upper++;
        }
        int common = java.math.BigInteger.valueOf(upper).gcd(java.math.BigInteger.valueOf(16)).intValue();
        return (which == 0 ? upper : 16) / common;
    }

    // ---- 5

    private int faulted(int which) {
        fault = which;
        return -10 - which;
    }

    private static int laneOf(Object row) {
        return row instanceof byte[] ? 0 : row instanceof short[] ? 1 : 2;
    }

    private int met(int sheet, int lane, int i, int n) {
        Object row = sheets[sheet];
        if (row != null && laneOf(row) != lane) return CAST;
        if (row == null) return NULL;
        if (n < 0) return SIZE;
        int length = java.lang.reflect.Array.getLength(row);
        return i < 0 || i > length || (long) i + n > length ? INDEX : 0;
    }

    private long at(int sheet, int i) {
        return java.lang.reflect.Array.getLong(sheets[sheet], i);
    }

    int sheet(int k, int lane, int n) {
        fault = 0;
        if (k < 0 || k > 3) return UNKNOWN;
        if (lane < 0 || lane > 2 || n > 60) return OUTSIDE;
        if (n < 0) return faulted(SIZE);
        sheets[k] = lane == 0 ? new byte[n] : lane == 1 ? new short[n] : new int[n];
        return 1;
    }

    int lose(int k) {
        if (k < 0 || k > 3) return UNKNOWN;
        int had = sheets[k] == null ? 0 : 1;
        sheets[k] = null;
        return had;
    }

    int put(int k, int i, int v) {
        fault = 0;
        if (k < 0 || k > 3) return UNKNOWN;
        if (sheets[k] == null) return faulted(NULL);
        if (met(k, laneOf(sheets[k]), i, 1) != 0) return faulted(INDEX);
        if (sheets[k] instanceof byte[] bytes) bytes[i] = (byte) v;
        if (sheets[k] instanceof short[] shorts) shorts[i] = (short) v;
        if (sheets[k] instanceof int[] ints) ints[i] = v;
        return 1;
    }

    long cell(int k, int i, int lane) {
        fault = 0;
        if (k < 0 || k > 3 || lane < 0 || lane > 2) return Long.MIN_VALUE;
        fault = met(k, lane, i, 1);
        return fault == 0 ? at(k, i) : Long.MIN_VALUE;
    }

    int copy(int k, int i, int other, int j, int n) {
        fault = 0;
        if (k < 0 || k > 3 || other < 0 || other > 3) return UNKNOWN;
        if (sheets[k] == null || sheets[other] == null) return faulted(NULL);
        if (sheets[k].getClass() != sheets[other].getClass()) return faulted(CAST);
        try {
            System.arraycopy(sheets[k], i, sheets[other], j, n);
            return n;
        } catch (IndexOutOfBoundsException e) {
            return faulted(INDEX);
        }
    }

    int tell(int f) {
        if (!has(f)) return UNKNOWN;
        int steps = functions.get(f).steps.size();
        switch (functions.get(f).kind) {
            case 'p':
                left(1);
                return steps;
            case 'l':
                left(2, 1);
                return steps + 100;
            default:
                left(3, 2, 1, 1);
                return 2 * steps + 100;
        }
    }

    private void left(int... numbers) {
        for (int number : numbers) {
            trace = trace * 31 + number;
        }
    }

    int name(int f) {
        if (!has(f)) return UNKNOWN;
        boolean keeping = functions.get(f).kind == 'k';
        left(keeping ? 5 : 4);
        return keeping ? 60 : f;
    }

    int as(int f, int kind) {
        fault = 0;
        if (!has(f)) return UNKNOWN;
        if (kind < 0 || kind > 2) return OUTSIDE;
        String ofIt = functions.get(f).kind == 'p' ? "p" : functions.get(f).kind == 'l' ? "pl" : "plk";
        return ofIt.indexOf("plk".charAt(kind)) >= 0 ? 1 : faulted(CAST);
    }

    int many(int what) {
        switch (what) {
            case 0: return functions.size();
            case 1: return functions.stream().mapToInt(f -> f.steps.size()).sum();
            case 2: return Integer.bitCount(live);
            case 3:
                int many = 0;
                for (int f = 0; f < functions.size(); f++) {
                    if (out(live, f) != NOTHING) many++;
                }
                return many;
            case 4: return readings.size();
            default: return OUTSIDE;
        }
    }
}
