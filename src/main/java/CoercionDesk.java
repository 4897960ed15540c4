/**
 * Values that go through casts between known and unknown types, and who is to blame when one fails.
 */
public final class CoercionDesk {
    public static final int BAD = -100;
    public static final int OK = 0;

    private static final int NUMBER_KIND = 0;
    private static final int TRUTH_KIND = 1;
    private static final int FUNCTION_KIND = 2;
    private static final int ARGUMENT_KINDS = 2;

    private static final int ANY = 0;
    private static final int NUMBER = 1;
    private static final int TRUTH = 2;
    private static final int ANY_TO_ANY = 3;
    private static final int FIRST_FUNCTION_TYPE = 3;
    private static final int TYPES = 12;
    private static final int SIMPLE_TYPES = 3;

    private static final int SUCCESSOR = 0;
    private static final int ITSELF = 1;
    private static final int NEGATION = 2;
    private static final int ABOVE_ZERO = 3;
    private static final int SEVEN = 4;
    private static final int TRUTH_AS_NUMBER = 5;

    private static final int FIRST_LABEL = 1;
    private static final int LAST_LABEL = 9;

    // These hold what type(), kind() and raw() answer, also while there is no value.
    private int valueType;
    private int valueKind;
    private int valueRaw;

    // The casts around a function look only at whether a number or a truth goes through. So the
    // whole chain of wrappings is told by the first blame for each of the two kinds, on the way in
    // and on the way out (OK: none), and no number of casts can outgrow it.
    private final int[] argumentBlame = new int[ARGUMENT_KINDS];
    private final int[] resultBlame = new int[ARGUMENT_KINDS];

    private int lastResultKind;
    private int lastResult;

    public CoercionDesk() {
        dropValue();
        forgetResult();
    }

    public int set(int kind, int n) {
        if (!isSettable(kind, n)) {
            return BAD;
        }
        valueType = ownType(kind, n);
        valueKind = kind;
        valueRaw = n;
        unwrap();
        forgetResult();
        return valueType;
    }

    public int cast(int t, int label) {
        if (valueKind == BAD || label < FIRST_LABEL || label > LAST_LABEL) {
            return BAD;
        }
        if (!agree(valueType, t)) {
            return BAD;
        }
        if (castFails(valueType, t, valueKind)) {
            dropValue();
            return label;
        }
        if (valueKind == FUNCTION_KIND) {
            int from = asFunctionType(valueType);
            int to = asFunctionType(t);
            wrap(from, to, label);
        }
        valueType = t;
        return OK;
    }

    public int type() {
        return valueType;
    }

    public int kind() {
        return valueKind;
    }

    public int raw() {
        return valueRaw;
    }

    public int call(int argKind, int n) {
        if (!isFunctionType(valueType) || !isArgument(argKind, n)) {
            return BAD;
        }
        int wanted = domainOf(valueType);
        if (wanted != ANY && kindOfType(wanted) != argKind) {
            return BAD;
        }
        if (argumentBlame[argKind] != OK) {
            return argumentBlame[argKind];
        }
        int outKind = innermostResultKind(argKind);
        if (resultBlame[outKind] != OK) {
            return resultBlame[outKind];
        }
        lastResultKind = outKind;
        lastResult = innermostResult(n);
        return OK;
    }

    public int resultKind() {
        return lastResultKind;
    }

    public int result() {
        return lastResult;
    }

    public boolean agree(int s, int t) {
        if (!isType(s) || !isType(t)) {
            return false;
        }
        if (isFunctionType(s) && isFunctionType(t)) {
            return functionTypesAgree(s, t);
        }
        return equalOrAny(s, t);
    }

    public int agreeing(int t) {
        if (!isType(t)) {
            return BAD;
        }
        int count = 0;
        for (int s = 0; s < TYPES; s++) {
            if (agree(s, t)) {
                count++;
            }
        }
        return count;
    }

    private void dropValue() {
        valueType = BAD;
        valueKind = BAD;
        valueRaw = 0;
    }

    private void forgetResult() {
        lastResultKind = BAD;
        lastResult = 0;
    }

    private void unwrap() {
        for (int kind = 0; kind < ARGUMENT_KINDS; kind++) {
            argumentBlame[kind] = OK;
            resultBlame[kind] = OK;
        }
    }

    /** The new wrapping is the outermost: the first to see an argument, the last to see a result. */
    private void wrap(int from, int to, int label) {
        int argumentFrom = domainOf(to);
        int argumentTo = domainOf(from);
        int resultFrom = rangeOf(from);
        int resultTo = rangeOf(to);
        for (int kind = 0; kind < ARGUMENT_KINDS; kind++) {
            if (castFails(argumentFrom, argumentTo, kind)) {
                argumentBlame[kind] = -label;
            }
            if (resultBlame[kind] == OK && castFails(resultFrom, resultTo, kind)) {
                resultBlame[kind] = label;
            }
        }
    }

    private int innermostResultKind(int argKind) {
        switch (valueRaw) {
            case ITSELF:
                return argKind;
            case NEGATION:
            case ABOVE_ZERO:
                return TRUTH_KIND;
            default:
                return NUMBER_KIND;
        }
    }

    private int innermostResult(int x) {
        switch (valueRaw) {
            case SUCCESSOR:
                return x + 1;
            case NEGATION:
                return 1 - x;
            case ABOVE_ZERO:
                return x > 0 ? 1 : 0;
            case SEVEN:
                return 7;
            default:
                return x;
        }
    }

    private static boolean isSettable(int kind, int n) {
        if (kind == FUNCTION_KIND) {
            return n >= SUCCESSOR && n <= TRUTH_AS_NUMBER;
        }
        return isArgument(kind, n);
    }

    private static boolean isArgument(int kind, int n) {
        return kind == NUMBER_KIND || kind == TRUTH_KIND && (n == 0 || n == 1);
    }

    private static int ownType(int kind, int n) {
        if (kind == NUMBER_KIND) {
            return NUMBER;
        }
        if (kind == TRUTH_KIND) {
            return TRUTH;
        }
        return ownFunctionType(n);
    }

    private static int ownFunctionType(int function) {
        switch (function) {
            case SUCCESSOR:
                return functionType(NUMBER, NUMBER);
            case NEGATION:
                return functionType(TRUTH, TRUTH);
            case ABOVE_ZERO:
                return functionType(NUMBER, TRUTH);
            case SEVEN:
                return functionType(ANY, NUMBER);
            case TRUTH_AS_NUMBER:
                return functionType(TRUTH, NUMBER);
            default:
                return ANY_TO_ANY;
        }
    }

    /** Between types that agree, only a cast out of ANY can fail. */
    private static boolean castFails(int from, int to, int kind) {
        return from == ANY && to != ANY && kindOfType(to) != kind;
    }

    private static int kindOfType(int knownType) {
        if (knownType == NUMBER) {
            return NUMBER_KIND;
        }
        if (knownType == TRUTH) {
            return TRUTH_KIND;
        }
        return FUNCTION_KIND;
    }

    private static int asFunctionType(int t) {
        return t == ANY ? ANY_TO_ANY : t;
    }

    private static boolean isType(int t) {
        return t >= 0 && t < TYPES;
    }

    private static boolean isFunctionType(int t) {
        return t >= FIRST_FUNCTION_TYPE && t < TYPES;
    }

    private static int functionType(int from, int to) {
        return FIRST_FUNCTION_TYPE + SIMPLE_TYPES * from + to;
    }

    private static int domainOf(int functionType) {
        return (functionType - FIRST_FUNCTION_TYPE) / SIMPLE_TYPES;
    }

    private static int rangeOf(int functionType) {
        return (functionType - FIRST_FUNCTION_TYPE) % SIMPLE_TYPES;
    }

    private static boolean functionTypesAgree(int s, int t) {
        int domainOfS = domainOf(s);
        int domainOfT = domainOf(t);
        int rangeOfS = rangeOf(s);
        int rangeOfT = rangeOf(t);
        return equalOrAny(domainOfS, domainOfT) && equalOrAny(rangeOfS, rangeOfT);
    }

    private static boolean equalOrAny(int a, int b) {
        return a == b || a == ANY || b == ANY;
    }
}
