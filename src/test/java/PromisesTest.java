/** Each promise with ordinary inputs, the edges that the document names, and wrong inputs. */
public final class PromisesTest {
    private static final int BAD = -100;
    private static final int OK = 0;
    private static final int MIN = Integer.MIN_VALUE;
    private static final int MAX = Integer.MAX_VALUE;
    private static final int ANY = 0;
    private static final int NUMBER = 1;
    private static final int TRUTH = 2;
    private static final int[] FUNCTION_TYPES = {7, 3, 11, 8, 4, 10};

    private static int wrong = 0;

    private static void due(String what, int got, int want) {
        if (got != want) {
            wrong++;
            System.out.println(what + " answered " + got + ", due is " + want);
        }
    }

    private static void due(String what, boolean got, boolean want) {
        due(what, got ? 1 : 0, want ? 1 : 0);
    }

    private static void dueState(String what, CoercionDesk x, int type, int kind, int raw) {
        due(what + ": type()", x.type(), type);
        due(what + ": kind()", x.kind(), kind);
        due(what + ": raw()", x.raw(), raw);
    }

    private static void dueResult(String what, CoercionDesk x, int kind, int result) {
        due(what + ": resultKind()", x.resultKind(), kind);
        due(what + ": result()", x.result(), result);
    }

    private static CoercionDesk with(int kind, int n) {
        CoercionDesk x = new CoercionDesk();
        x.set(kind, n);
        return x;
    }

    private static int functionType(int from, int to) {
        return 3 + 3 * from + to;
    }

    public static void main(String[] args) {
        promise1NewObject();
        promise2Set();
        promise2WrongSetChangesNothing();
        promise3CastOfNumbersAndTruths();
        promise3CastOfFunctions();
        promise3WrongCastChangesNothing();
        promise4Type();
        promise5Kind();
        promise6Raw();
        promise7CallOfTheFunctions();
        promise7CallIsBad();
        promise7CallBlamesTheFirstCast();
        promise7ValueStaysAsItIs();
        promises8And9Result();
        promise10Agree();
        promise11Agreeing();
        everyPromiseHoldsUpToCall512();
        objectsAreApart();
        System.out.println(wrong == 0 ? "all answers are as due" : wrong + " answers are not as due");
        if (wrong != 0) {
            System.exit(1);
        }
    }

    private static void promise1NewObject() {
        due("BAD", CoercionDesk.BAD, BAD);
        due("OK", CoercionDesk.OK, OK);
        CoercionDesk x = new CoercionDesk();
        dueState("new", x, BAD, BAD, 0);
        dueResult("new", x, BAD, 0);
        for (int t = 0; t < 12; t++) {
            due("new: cast(" + t + ", 1)", x.cast(t, 1), BAD);
        }
        due("new: call(0, 0)", x.call(0, 0), BAD);
        due("new: call(1, 1)", x.call(1, 1), BAD);
        dueState("new after wrong calls", x, BAD, BAD, 0);
        dueResult("new after wrong calls", x, BAD, 0);
    }

    private static void promise2Set() {
        CoercionDesk x = new CoercionDesk();
        int[] numbers = {0, 1, -1, 2, 5, 6, -100, MIN, MAX};
        for (int n : numbers) {
            due("set(0, " + n + ")", x.set(0, n), NUMBER);
            dueState("set(0, " + n + ")", x, NUMBER, 0, n);
        }
        for (int n = 0; n <= 1; n++) {
            due("set(1, " + n + ")", x.set(1, n), TRUTH);
            dueState("set(1, " + n + ")", x, TRUTH, 1, n);
        }
        for (int n = 0; n <= 5; n++) {
            due("set(2, " + n + ")", x.set(2, n), FUNCTION_TYPES[n]);
            dueState("set(2, " + n + ")", x, FUNCTION_TYPES[n], 2, n);
        }
    }

    private static void promise2WrongSetChangesNothing() {
        int[][] wrongs = {{-1, 0}, {3, 0}, {MIN, 0}, {MAX, 1}, {1, -1}, {1, 2}, {1, MIN}, {1, MAX},
            {2, -1}, {2, 6}, {2, MIN}, {2, MAX}};
        for (int[] w : wrongs) {
            String what = "set(" + w[0] + ", " + w[1] + ")";
            CoercionDesk none = new CoercionDesk();
            due(what, none.set(w[0], w[1]), BAD);
            dueState(what, none, BAD, BAD, 0);
            CoercionDesk x = with(2, 0);
            x.call(0, 41);
            x.cast(functionType(ANY, NUMBER), 4);
            due(what, x.set(w[0], w[1]), BAD);
            dueState(what, x, functionType(ANY, NUMBER), 2, 0);
            dueResult(what, x, 0, 42);
            due(what + ": still wrapped", x.call(1, 1), -4);
        }
    }

    private static void promise3CastOfNumbersAndTruths() {
        for (int kind = 0; kind <= 1; kind++) {
            int own = kind + 1;
            for (int label = 1; label <= 9; label++) {
                String what = "kind " + kind + ", label " + label;
                CoercionDesk x = with(kind, 1);
                due(what + ": to itself", x.cast(own, label), OK);
                dueState(what + ": to itself", x, own, kind, 1);
                due(what + ": to ANY", x.cast(ANY, label), OK);
                dueState(what + ": to ANY", x, ANY, kind, 1);
                due(what + ": ANY to ANY", x.cast(ANY, label), OK);
                dueState(what + ": ANY to ANY", x, ANY, kind, 1);
                due(what + ": back", x.cast(own, label), OK);
                dueState(what + ": back", x, own, kind, 1);
            }
            for (int t = 1; t < 12; t++) {
                if (t != own) {
                    failsFromAny(kind, 1, t);
                }
            }
        }
    }

    private static void failsFromAny(int kind, int n, int t) {
        String what = "value " + kind + " " + n + " from ANY to " + t;
        CoercionDesk x = with(kind, n);
        x.cast(ANY, 1);
        due(what, x.cast(t, 8), 8);
        dueState(what, x, BAD, BAD, 0);
        due(what + ": cast of what is gone", x.cast(ANY, 2), BAD);
        due(what + ": call of what is gone", x.call(0, 0), BAD);
        due(what + ": another one", x.set(0, 3), NUMBER);
        dueState(what + ": another one", x, NUMBER, 0, 3);
    }

    private static void promise3CastOfFunctions() {
        for (int f = 0; f <= 5; f++) {
            failsFromAny(2, f, NUMBER);
            failsFromAny(2, f, TRUTH);
            for (int t = 3; t < 12; t++) {
                String what = "function " + f + " by ANY to " + t;
                CoercionDesk x = with(2, f);
                due(what + ": to ANY", x.cast(ANY, 1), OK);
                dueState(what + ": to ANY", x, ANY, 2, f);
                due(what, x.cast(t, 9), OK);
                dueState(what, x, t, 2, f);
            }
            CoercionDesk x = with(2, f);
            due("function " + f + " to its own type", x.cast(FUNCTION_TYPES[f], 1), OK);
            dueState("function " + f + " to its own type", x, FUNCTION_TYPES[f], 2, f);
        }
    }

    private static void promise3WrongCastChangesNothing() {
        int[][] wrongs = {{-1, 1}, {12, 1}, {MIN, 1}, {MAX, 1}, {ANY, 0}, {ANY, 10}, {ANY, -1}, {ANY, MIN},
            {ANY, MAX}, {NUMBER, 1}, {TRUTH, 1}, {functionType(TRUTH, NUMBER), 1},
            {functionType(NUMBER, TRUTH), 1}, {functionType(TRUTH, ANY), 1}, {functionType(ANY, TRUTH), 1}};
        for (int[] w : wrongs) {
            String what = "cast(" + w[0] + ", " + w[1] + ") from NUMBER to NUMBER";
            CoercionDesk x = with(2, 0);
            x.call(0, 1);
            due(what, x.cast(w[0], w[1]), BAD);
            dueState(what, x, functionType(NUMBER, NUMBER), 2, 0);
            dueResult(what, x, 0, 2);
            due(what + ": call", x.call(0, 5), OK);
            dueResult(what + ": call", x, 0, 6);
        }
        int[] labels = {0, 10, -1, MIN, MAX};
        for (int label : labels) {
            CoercionDesk x = with(0, 5);
            x.cast(ANY, 1);
            due("failing cast with label " + label, x.cast(TRUTH, label), BAD);
            dueState("failing cast with label " + label, x, ANY, 0, 5);
        }
        for (int t = 2; t < 12; t++) {
            CoercionDesk x = with(0, 5);
            due("NUMBER to " + t, x.cast(t, 1), BAD);
            dueState("NUMBER to " + t, x, NUMBER, 0, 5);
        }
    }

    private static void promise4Type() {
        CoercionDesk x = with(2, 1);
        int[] way = {4, 7, 3, 11, 9, 0, 8, 0, 0, 10, 10};
        for (int t : way) {
            x.cast(t, 1);
            due("type() after a cast to " + t, x.type(), t);
        }
        x.cast(ANY, 1);
        x.cast(NUMBER, 1);
        due("type() after a failed cast", x.type(), BAD);
    }

    private static void promise5Kind() {
        for (int kind = 0; kind <= 2; kind++) {
            CoercionDesk x = with(kind, 1);
            due("kind() of kind " + kind, x.kind(), kind);
            x.cast(ANY, 1);
            due("kind() of kind " + kind + " as ANY", x.kind(), kind);
            x.cast(kind == 0 ? TRUTH : NUMBER, 1);
            due("kind() of kind " + kind + " gone", x.kind(), BAD);
        }
    }

    private static void promise6Raw() {
        CoercionDesk x = with(0, MIN);
        x.cast(ANY, 1);
        due("raw() of a number as ANY", x.raw(), MIN);
        x.cast(TRUTH, 1);
        due("raw() of a number gone", x.raw(), 0);
        for (int f = 0; f <= 5; f++) {
            CoercionDesk y = with(2, f);
            y.cast(3, 1);
            y.cast(7, 2);
            y.cast(ANY, 3);
            y.cast(11, 4);
            due("raw() of function " + f + " wrapped", y.raw(), f);
            y.call(1, 1);
            due("raw() of function " + f + " called", y.raw(), f);
            y.cast(ANY, 5);
            y.cast(TRUTH, 6);
            due("raw() of function " + f + " gone", y.raw(), 0);
        }
    }

    private static void dueCall(int f, int argKind, int n, int kind, int result) {
        CoercionDesk x = with(2, f);
        String what = "function " + f + ": call(" + argKind + ", " + n + ")";
        due(what, x.call(argKind, n), OK);
        dueResult(what, x, kind, result);
    }

    private static void promise7CallOfTheFunctions() {
        int[] numbers = {0, 1, -1, 2, 7, -100, MIN, MAX};
        for (int n : numbers) {
            dueCall(0, 0, n, 0, n + 1);
            dueCall(1, 0, n, 0, n);
            dueCall(3, 0, n, 1, n > 0 ? 1 : 0);
            dueCall(4, 0, n, 0, 7);
        }
        for (int n = 0; n <= 1; n++) {
            dueCall(1, 1, n, 1, n);
            dueCall(2, 1, n, 1, 1 - n);
            dueCall(4, 1, n, 0, 7);
            dueCall(5, 1, n, 0, n);
        }
        dueCall(0, 0, MAX, 0, MIN);
    }

    private static void dueBadCall(String what, CoercionDesk x, int argKind, int n) {
        due(what + ": call(" + argKind + ", " + n + ")", x.call(argKind, n), BAD);
    }

    private static void promise7CallIsBad() {
        dueBadCall("a number", with(0, 1), 0, 1);
        dueBadCall("a truth", with(1, 1), 1, 1);
        CoercionDesk hidden = with(2, 1);
        hidden.cast(ANY, 1);
        dueBadCall("a function as ANY", hidden, 0, 1);
        dueBadCall("a function as ANY", hidden, 1, 1);
        for (int f = 0; f <= 5; f++) {
            String what = "function " + f;
            dueBadCall(what, with(2, f), -1, 0);
            dueBadCall(what, with(2, f), 2, 0);
            dueBadCall(what, with(2, f), MIN, 0);
            dueBadCall(what, with(2, f), MAX, 1);
            dueBadCall(what, with(2, f), 1, -1);
            dueBadCall(what, with(2, f), 1, 2);
            dueBadCall(what, with(2, f), 1, MIN);
            dueBadCall(what, with(2, f), 1, MAX);
        }
        dueBadCall("from NUMBER", with(2, 0), 1, 1);
        dueBadCall("from NUMBER", with(2, 3), 1, 0);
        dueBadCall("from TRUTH", with(2, 2), 0, 1);
        dueBadCall("from TRUTH", with(2, 5), 0, 0);
        CoercionDesk narrowed = with(2, 1);
        narrowed.cast(functionType(NUMBER, ANY), 1);
        dueBadCall("narrowed to NUMBER", narrowed, 1, 1);
        CoercionDesk unsettled = with(2, 0);
        unsettled.cast(functionType(ANY, ANY), 2);
        dueBadCall("a wrong truth goes before blame", unsettled, 1, 2);
    }

    private static CoercionDesk castAlong(int f, int... typesAndLabels) {
        CoercionDesk x = with(2, f);
        for (int i = 0; i < typesAndLabels.length; i += 2) {
            due("cast(" + typesAndLabels[i] + ", " + typesAndLabels[i + 1] + ")",
                x.cast(typesAndLabels[i], typesAndLabels[i + 1]), OK);
        }
        return x;
    }

    private static void promise7CallBlamesTheFirstCast() {
        for (int label = 1; label <= 9; label++) {
            due("argument of a wrapped function", castAlong(0, 3, label).call(1, 1), -label);
            due("result of a wrapped function", castAlong(1, 5, label).call(0, 1), label);
        }
        due("a function taken to ANY guards its argument", castAlong(2, 0, 3, 3, 4).call(0, 1), -3);
        due("a function taken from ANY guards its result", castAlong(1, 0, 3, 8, 4).call(0, 1), 4);
        due("the outermost argument cast goes first",
            castAlong(1, 6, 1, 3, 2, 6, 3, 3, 4).call(1, 1), -4);
        due("the only argument cast that fails, the outermost",
            castAlong(1, 6, 1, 3, 2, 9, 3, 3, 4).call(0, 1), -4);
        due("a later argument cast after one that holds",
            castAlong(1, 6, 1, 3, 2, 9, 3, 3, 4).call(1, 1), -2);
        due("the innermost result cast goes first",
            castAlong(1, 4, 1, 3, 2, 4, 3, 3, 4).call(1, 1), 1);
        due("the only result cast that fails, the innermost",
            castAlong(1, 4, 1, 3, 2, 5, 3, 3, 4).call(1, 1), 1);
        due("a later result cast after one that holds",
            castAlong(1, 4, 1, 3, 2, 5, 3, 3, 4).call(0, 1), 3);
        due("the argument goes before the result", castAlong(1, 5, 1, 8, 2, 3, 3).call(1, 1), -3);
        due("the result when the argument holds", castAlong(1, 5, 1, 8, 2, 3, 3).call(0, 1), 1);
        due("a type to itself wraps nothing", castAlong(0, 7, 1, 3, 2, 3, 3).call(1, 1), -2);
        CoercionDesk fresh = castAlong(0, 3, 1);
        fresh.set(2, 1);
        due("a set value is not wrapped", fresh.call(1, 1), OK);
        CoercionDesk results = castAlong(1, 5, 1, 3, 2);
        results.set(2, 1);
        due("a set value has no result casts", results.call(0, 1), OK);
    }

    private static void promise7ValueStaysAsItIs() {
        CoercionDesk x = castAlong(2, 0, 1, 3, 2);
        for (int i = 0; i < 3; i++) {
            due("call that fails", x.call(0, 1), -1);
            dueState("call that fails", x, 3, 2, 2);
            due("call that holds", x.call(1, 1), OK);
            dueState("call that holds", x, 3, 2, 2);
            dueResult("call that holds", x, 1, 0);
            due("call that is wrong", x.call(2, 1), BAD);
            dueState("call that is wrong", x, 3, 2, 2);
        }
    }

    private static void promises8And9Result() {
        CoercionDesk x = with(2, 0);
        dueResult("before a call", x, BAD, 0);
        x.call(1, 1);
        dueResult("after a wrong call", x, BAD, 0);
        x.call(0, 41);
        dueResult("after a call", x, 0, 42);
        x.call(1, 0);
        dueResult("after a wrong call more", x, 0, 42);
        x.cast(3, 1);
        dueResult("after a cast", x, 0, 42);
        x.call(1, 0);
        dueResult("after a call that failed", x, 0, 42);
        x.cast(ANY, 2);
        x.cast(NUMBER, 3);
        dueResult("after the value is gone", x, 0, 42);
        x.set(2, 9);
        dueResult("after a wrong set", x, 0, 42);
        x.set(2, 3);
        dueResult("after a set", x, BAD, 0);
        x.call(0, 41);
        dueResult("a truth", x, 1, 1);
        x.call(0, -41);
        dueResult("the last call", x, 1, 0);
        x.set(2, 3);
        dueResult("after a set of the same", x, BAD, 0);
        x.cast(functionType(ANY, ANY), 1);
        x.call(1, 1);
        dueResult("after a first call that failed", x, BAD, 0);
        x.set(2, 1);
        x.cast(functionType(ANY, NUMBER), 1);
        x.call(1, 1);
        dueResult("after a first call whose result failed", x, BAD, 0);
        x.call(0, 41);
        x.call(1, 1);
        dueResult("after a later call whose result failed", x, 0, 41);
    }

    private static void promise10Agree() {
        String[] table = {
            "111111111111",
            "110000000000",
            "101000000000",
            "100111111111",
            "100110110110",
            "100101101101",
            "100111111000",
            "100110110000",
            "100101101000",
            "100111000111",
            "100110000110",
            "100101000101"};
        CoercionDesk x = new CoercionDesk();
        for (int s = 0; s < 12; s++) {
            for (int t = 0; t < 12; t++) {
                due("agree(" + s + ", " + t + ")", x.agree(s, t), table[s].charAt(t) == '1');
            }
        }
        int[] wrongs = {-1, 12, 13, -100, MIN, MAX};
        for (int w : wrongs) {
            for (int t = 0; t < 12; t++) {
                due("agree(" + w + ", " + t + ")", x.agree(w, t), false);
                due("agree(" + t + ", " + w + ")", x.agree(t, w), false);
            }
            due("agree(" + w + ", " + w + ")", x.agree(w, w), false);
        }
    }

    private static void promise11Agreeing() {
        int[] counts = {12, 2, 2, 10, 7, 7, 7, 5, 5, 7, 5, 5};
        CoercionDesk x = with(2, 0);
        for (int t = 0; t < 12; t++) {
            due("agreeing(" + t + ")", x.agreeing(t), counts[t]);
        }
        int[] wrongs = {-1, 12, -100, MIN, MAX};
        for (int w : wrongs) {
            due("agreeing(" + w + ")", x.agreeing(w), BAD);
        }
        dueState("after agreeing", x, 7, 2, 0);
    }

    private static void everyPromiseHoldsUpToCall512() {
        CoercionDesk x = with(2, 1);
        due("deep: first cast", x.cast(functionType(ANY, NUMBER), 5), OK);
        for (int call = 3; call <= 510; call++) {
            due("deep: call " + call, x.cast(call % 2 == 0 ? functionType(ANY, ANY) : ANY, 1 + call % 4), OK);
        }
        due("deep: call 511", x.call(1, 1), 5);
        due("deep: call 512", x.call(0, 1), OK);
    }

    private static void objectsAreApart() {
        CoercionDesk x = with(2, 0);
        CoercionDesk y = with(2, 0);
        x.cast(3, 1);
        x.call(0, 1);
        dueState("the other object", y, 7, 2, 0);
        dueResult("the other object", y, BAD, 0);
        y.cast(3, 2);
        due("one object's label", x.call(1, 1), -1);
        due("the other object's label", y.call(1, 1), -2);
    }
}
