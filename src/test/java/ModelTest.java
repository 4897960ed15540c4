import java.util.function.UnaryOperator;

/**
 * The desk beside a model that does the document's words one by one: it wraps real functions around
 * real functions, where the desk keeps only the blame.
 */
public final class ModelTest {
    private static final int BAD = -100;
    private static final int CALLS = 512;

    private static int wrong = 0;

    /** A cast that failed. */
    private static final class Blame extends RuntimeException {
        private static final long serialVersionUID = 1L;
        final int label;

        Blame(int label) {
            super(null, null, false, false);
            this.label = label;
        }
    }

    /** A number or a truth. */
    private record Plain(int kind, int n) { }

    private static final class Model {
        boolean present;
        int type;
        Plain plain;
        UnaryOperator<Plain> function;
        int functionNumber;
        Plain result;

        int set(int kind, int n) {
            if (kind == 0 || kind == 1 && (n == 0 || n == 1)) {
                plain = new Plain(kind, n);
                function = null;
                type = kind == 0 ? 1 : 2;
            } else if (kind == 2 && n >= 0 && n <= 5) {
                plain = null;
                functionNumber = n;
                setFunction(n);
            } else {
                return BAD;
            }
            present = true;
            result = null;
            return type;
        }

        private void setFunction(int n) {
            switch (n) {
                case 0 -> { type = 3 + 3 * 1 + 1; function = x -> new Plain(0, x.n() + 1); }
                case 1 -> { type = 3 + 3 * 0 + 0; function = x -> x; }
                case 2 -> { type = 3 + 3 * 2 + 2; function = x -> new Plain(1, 1 - x.n()); }
                case 3 -> { type = 3 + 3 * 1 + 2; function = x -> new Plain(1, x.n() > 0 ? 1 : 0); }
                case 4 -> { type = 3 + 3 * 0 + 1; function = x -> new Plain(0, 7); }
                default -> { type = 3 + 3 * 2 + 1; function = x -> new Plain(0, x.n()); }
            }
        }

        int cast(int t, int label) {
            if (!present || t < 0 || t > 11 || label < 1 || label > 9 || !agree(type, t)) {
                return BAD;
            }
            int s = type;
            type = t;
            if (s == t) {
                return 0;
            }
            boolean failed = s == 0 && (t == 1 || t == 2) && (plain == null || plain.kind() != t - 1)
                || s == 0 && t >= 3 && function == null;
            if (failed) {
                present = false;
                return label;
            }
            if (s >= 3 || t >= 3) {
                function = wrapped(function, s == 0 ? 3 : s, t == 0 ? 3 : t, label);
            }
            return 0;
        }

        private static UnaryOperator<Plain> wrapped(UnaryOperator<Plain> inner, int s, int t, int label) {
            int a = (s - 3) / 3;
            int b = (s - 3) % 3;
            int c = (t - 3) / 3;
            int d = (t - 3) % 3;
            return x -> castPlain(inner.apply(castPlain(x, c, a, -label)), b, d, label);
        }

        private static Plain castPlain(Plain x, int s, int t, int label) {
            if (s != 0 && x.kind() != s - 1) {
                throw new IllegalStateException("a value without its type");
            }
            if (s == 0 && t != 0 && x.kind() != t - 1) {
                throw new Blame(label);
            }
            return x;
        }

        int type() {
            return present ? type : BAD;
        }

        int kind() {
            return !present ? BAD : plain == null ? 2 : plain.kind();
        }

        int raw() {
            return !present ? 0 : plain == null ? functionNumber : plain.n();
        }

        int call(int argKind, int n) {
            if (!present || type < 3 || argKind < 0 || argKind > 1 || argKind == 1 && n != 0 && n != 1) {
                return BAD;
            }
            int from = (type - 3) / 3;
            if (from == 1 && argKind != 0 || from == 2 && argKind != 1) {
                return BAD;
            }
            try {
                result = function.apply(new Plain(argKind, n));
                return 0;
            } catch (Blame blame) {
                return blame.label;
            }
        }

        int resultKind() {
            return result == null ? BAD : result.kind();
        }

        int result() {
            return result == null ? 0 : result.n();
        }

        static boolean agree(int s, int t) {
            if (s < 0 || s > 11 || t < 0 || t > 11) {
                return false;
            }
            return s == t || s == 0 || t == 0
                || s >= 3 && t >= 3 && agree((s - 3) / 3, (t - 3) / 3) && agree((s - 3) % 3, (t - 3) % 3);
        }

        static int agreeing(int t) {
            if (t < 0 || t > 11) {
                return BAD;
            }
            int count = 0;
            for (int s = 0; s <= 11; s++) {
                count += agree(s, t) ? 1 : 0;
            }
            return count;
        }
    }

    private static void due(String run, String call, int got, int want) {
        if (got != want) {
            wrong++;
            if (wrong <= 20) {
                System.out.println(run + ": " + call + " answered " + got + ", due is " + want);
            }
        }
    }

    private static void dueAll(String run, CoercionDesk x, Model m) {
        due(run, "type()", x.type(), m.type());
        due(run, "kind()", x.kind(), m.kind());
        due(run, "raw()", x.raw(), m.raw());
        due(run, "resultKind()", x.resultKind(), m.resultKind());
        due(run, "result()", x.result(), m.result());
    }

    /** Every value through every way of four casts, then every sort of call. */
    private static void everyWayOfFourCasts() {
        int[][] values = {{0, 5}, {0, 0}, {1, 0}, {1, 1}, {2, 0}, {2, 1}, {2, 2}, {2, 3}, {2, 4}, {2, 5}};
        int[][] calls = {{0, 0}, {0, 5}, {1, 0}, {1, 1}};
        for (int[] value : values) {
            for (int way = 0; way < 12 * 12 * 12 * 12; way++) {
                CoercionDesk x = new CoercionDesk();
                Model m = new Model();
                String run = "value " + value[0] + " " + value[1] + ", way " + way;
                due(run, "set", x.set(value[0], value[1]), m.set(value[0], value[1]));
                int rest = way;
                for (int label = 1; label <= 4; label++) {
                    due(run, "cast(" + rest % 12 + ")", x.cast(rest % 12, label), m.cast(rest % 12, label));
                    rest /= 12;
                }
                for (int[] c : calls) {
                    due(run, "call(" + c[0] + ", " + c[1] + ")", x.call(c[0], c[1]), m.call(c[0], c[1]));
                    dueAll(run, x, m);
                }
            }
        }
    }

    private static long seed = 20261116L;

    /** A number in 0 .. bound - 1, the same ones in every run of the test. */
    private static int next(int bound) {
        seed = seed * 6364136223846793005L + 1442695040888963407L;
        return (int) ((seed >>> 33) % bound);
    }

    private static int number() {
        int[] edges = {Integer.MIN_VALUE, Integer.MAX_VALUE, -100, -1, 0, 1, 2, 5, 6, 7, 10, 12};
        return edges[next(edges.length)];
    }

    private static void step(String run, CoercionDesk x, Model m, int setOdds) {
        int p = next(20) == 0 ? number() : next(12);
        int q = next(20) == 0 ? number() : 1 + next(9);
        int k = next(20) == 0 ? number() : next(2);
        int n = next(3) == 0 ? number() : next(2);
        if (next(setOdds) == 0 || next(2) == 0 && m.kind() == BAD) {
            int kind = next(20) == 0 ? number() : next(4) == 0 ? next(2) : 2;
            int v = next(10) == 0 ? number() : next(6);
            due(run, "set(" + kind + ", " + v + ")", x.set(kind, v), m.set(kind, v));
            return;
        }
        switch (next(12)) {
            case 0 -> due(run, "type()", x.type(), m.type());
            case 1 -> due(run, "kind()", x.kind(), m.kind());
            case 2 -> due(run, "raw()", x.raw(), m.raw());
            case 3 -> due(run, "resultKind()", x.resultKind(), m.resultKind());
            case 4 -> due(run, "result()", x.result(), m.result());
            case 5 -> due(run, "agree(" + p + ", " + q + ")", x.agree(p, q) ? 1 : 0, Model.agree(p, q) ? 1 : 0);
            case 6 -> due(run, "agreeing(" + p + ")", x.agreeing(p), Model.agreeing(p));
            case 7, 8 -> due(run, "call(" + k + ", " + n + ")", x.call(k, n), m.call(k, n));
            default -> due(run, "cast(" + p + ", " + q + ")", x.cast(p, q), m.cast(p, q));
        }
    }

    private static void longRuns() {
        for (int run = 0; run < 2000; run++) {
            CoercionDesk x = new CoercionDesk();
            Model m = new Model();
            int setOdds = run % 2 == 0 ? 12 : 1000;
            for (int call = 1; call <= CALLS; call++) {
                step("long run " + run + ", call " + call, x, m, setOdds);
            }
        }
    }

    public static void main(String[] args) {
        everyWayOfFourCasts();
        longRuns();
        System.out.println(wrong == 0 ? "all answers are as due" : wrong + " answers are not as due");
        if (wrong != 0) {
            System.exit(1);
        }
    }
}
