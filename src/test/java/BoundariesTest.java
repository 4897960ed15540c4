/**
 * Each sentence of the document that names a boundary case, with a test of its own.
 *
 * <p>A run is written as calls on a new object, apart by "; ", each with the answer that is due after
 * "=" (a boolean counts 1 or 0); a call without "=" leads up to those, and only must not be refused.
 */
public final class BoundariesTest {
    private static final int BAD = -100;
    private static final int MIN = Integer.MIN_VALUE;
    private static final int MAX = Integer.MAX_VALUE;
    private static final int CALLS = 512;
    private static final int[] OWN_TYPES = {7, 3, 11, 8, 4, 10};

    private static final String[] WITHOUT_VALUE = {
        "",
        "set 0 5; cast 0 1; cast 2 2",
        "set 2 0; call 0 41; cast 0 1; cast 1 2"};
    private static final String[] PLAIN = {
        "set 0 0",
        "set 0 -2147483648",
        "set 1 0",
        "set 1 1"};
    private static final String[] AS_ANY = {
        "set 0 2147483647; cast 0 1",
        "set 1 1; cast 0 1",
        "set 2 3; call 0 1; cast 0 4"};
    private static final String[] FUNCTIONS = {
        "set 2 0",
        "set 2 1",
        "set 2 2; call 1 0",
        "set 2 3; call 0 1",
        "set 2 4; call 1 0",
        "set 2 5; call 1 1",
        "set 2 0; call 0 41; cast 3 4",
        "set 2 1; call 1 0; cast 5 6; cast 3 7",
        "set 2 1; cast 0 2; cast 8 3; cast 3 5; call 1 0",
        "set 2 2; cast 0 1; cast 3 2; call 1 1; call 0 1"};

    /** What tells two objects apart: the state, then what calls and casts make of it. */
    private static final String LOOK = "type; kind; raw; resultKind; result; call 0 5; resultKind; result; "
        + "call 1 1; resultKind; result; cast 0 9; type; cast 3 8; type; call 0 -6; resultKind; result; "
        + "call 1 0; resultKind; result; cast 0 7; cast 1 6; type; kind; raw; result";

    private static String sentence = "";
    private static int sentences = 0;
    private static int wrong = 0;

    public static void main(String[] args) {
        whatItIs();
        termsOfTypesAndValues();
        termsOfCasts();
        promises1To3();
        promises4To6();
        promise7();
        promises8To11();
        System.out.println(wrong == 0
            ? "all answers are as due, over " + sentences + " sentences"
            : wrong + " answers are not as due");
        if (wrong != 0) {
            System.exit(1);
        }
    }

    private static void whatItIs() {
        test("What it is: at most 512 calls: set", BoundariesTest::set512);
        test("What it is: at most 512 calls: cast", BoundariesTest::cast512);
        test("What it is: at most 512 calls: type, kind, raw", BoundariesTest::look512);
        test("What it is: at most 512 calls: call", BoundariesTest::call512);
        test("What it is: at most 512 calls: resultKind, result", BoundariesTest::result512);
        test("What it is: at most 512 calls: agree, agreeing", BoundariesTest::agree512);
        test("What it is: at most 512 calls: refused ones", BoundariesTest::refused512);
    }

    private static void termsOfTypesAndValues() {
        test("Terms: 0 ANY; 1 NUMBER; 2 TRUTH; 3 to 11: FUNCTION", BoundariesTest::typesEnds);
        test("Terms: AGREE when they are equal, or one of them is ANY", BoundariesTest::equalOrAnyAgree);
        test("Terms: AGREE when both are functions and both sides agree", BoundariesTest::functionsAgree);
        test("Terms: a number (an int)", BoundariesTest::numberEnds);
        test("Terms: a truth (0 or 1)", BoundariesTest::truthEnds);
        test("Terms: 0 from NUMBER to NUMBER: x + 1 (wraps)", BoundariesTest::function0Wraps);
        test("Terms: 1 from ANY to ANY: x itself", BoundariesTest::function1Itself);
        test("Terms: 2 from TRUTH to TRUTH: 1 - x", BoundariesTest::function2Negates);
        test("Terms: 3 from NUMBER to TRUTH: 1 when x is above 0, else 0", BoundariesTest::function3AboveZero);
        test("Terms: 4 from ANY to NUMBER: 7", BoundariesTest::function4Seven);
        test("Terms: 5 from TRUTH to NUMBER: x", BoundariesTest::function5Number);
    }

    private static void termsOfCasts() {
        test("Terms: a label (1 to 9)", BoundariesTest::labelEnds);
        test("Terms: from NUMBER or TRUTH to ANY: nothing else happens", BoundariesTest::toAnyChangesTypeOnly);
        test("Terms: from a type to itself: nothing else happens", BoundariesTest::toItselfNothing);
        test("Terms: it FAILS unless the value is a number (a truth)", BoundariesTest::failsUnlessPlain);
        test("Terms: it FAILS unless the value is a number (a truth): an argument",
            BoundariesTest::argumentFailsUnlessPlain);
        test("Terms: it FAILS unless the value is a number (a truth): a result",
            BoundariesTest::resultFailsUnlessPlain);
        test("Terms: it FAILS unless the value is a function", BoundariesTest::failsUnlessFunction);
        test("Terms: if it is one, with s = the function type from ANY to ANY", BoundariesTest::fromAnyWraps);
        test("Terms: from a function type to ANY: with t from ANY to ANY", BoundariesTest::toAnyWraps);
        test("Terms: the type of the value is ANY after it all the same", BoundariesTest::toAnyIsAny);
        test("Terms: with the label's NEGATIVE to blame", BoundariesTest::negativeToBlame);
        test("Terms: casts the result from b to d, with the label to blame", BoundariesTest::labelToBlame);
        test("Terms: A value that failed is gone", BoundariesTest::failedIsGone);
        test("Terms: no value until another one is set", BoundariesTest::goneUntilSet);
    }

    private static void promises1To3() {
        test("Promise 1: No value", BoundariesTest::newHasNoValue);
        test("Promise 2: kind 0 .. 2", BoundariesTest::setAnswersType);
        test("Promise 2: a set unwraps and replaces", BoundariesTest::setReplaces);
        test("Promise 2: BAD, changing nothing: kind too small or too large", BoundariesTest::setWrongKind);
        test("Promise 2: BAD, changing nothing: truth too small or too large", BoundariesTest::setWrongTruth);
        test("Promise 2: BAD, changing nothing: function too small or too large", BoundariesTest::setWrongFunction);
        test("Promise 3: BAD, changing nothing: no value", BoundariesTest::castWithoutValue);
        test("Promise 3: BAD, changing nothing: t is not 0 .. 11", BoundariesTest::castWrongType);
        test("Promise 3: BAD, changing nothing: label is not 1 .. 9", BoundariesTest::castWrongLabel);
        test("Promise 3: BAD, changing nothing: t does not agree", BoundariesTest::castDisagrees);
        test("Promise 3: OK; or the label that is to blame", BoundariesTest::castAnswers);
    }

    private static void promises4To6() {
        test("Promise 4: BAD when there is none", () -> withoutValue("type", BAD));
        test("Promise 5: whatever its type", BoundariesTest::kindWhateverType);
        test("Promise 5: BAD when there is none", () -> withoutValue("kind", BAD));
        test("Promise 6: the number of the innermost function", BoundariesTest::rawInnermost);
        test("Promise 6: 0 when there is none", () -> withoutValue("raw", 0));
    }

    private static void promise7() {
        test("Promise 7: BAD: no value", BoundariesTest::callWithoutValue);
        test("Promise 7: BAD: its type is no function type", BoundariesTest::callNoFunctionType);
        test("Promise 7: BAD: argKind is not 0 or 1", BoundariesTest::callWrongKind);
        test("Promise 7: BAD: a truth is not 0 or 1", BoundariesTest::callWrongTruth);
        test("Promise 7: BAD: from NUMBER and the argument is not of that kind", BoundariesTest::callFromNumber);
        test("Promise 7: BAD: from TRUTH and the argument is not of that kind", BoundariesTest::callFromTruth);
        test("Promise 7: BAD goes before blame", BoundariesTest::callBadBeforeBlame);
        test("Promise 7: the first cast that fails: arguments", BoundariesTest::firstArgumentCast);
        test("Promise 7: the first cast that fails: results", BoundariesTest::firstResultCast);
        test("Promise 7: the first cast that fails: an argument before a result",
            BoundariesTest::argumentBeforeResult);
        test("Promise 7: The value stays as it is", BoundariesTest::callKeepsValue);
    }

    private static void promises8To11() {
        test("Promise 8: the last call that answered OK", BoundariesTest::lastOkKind);
        test("Promise 8: BAD when there was none since the last set", BoundariesTest::noResultKind);
        test("Promise 9: the result of that call", BoundariesTest::lastOkResult);
        test("Promise 9: 0 when there was none", BoundariesTest::noResult);
        test("Promise 10: false when one is not 0 .. 11", BoundariesTest::agreeWrongType);
        test("Promise 11: the number of types that agree", BoundariesTest::agreeingEnds);
        test("Promise 11: BAD when it is not 0 .. 11", BoundariesTest::agreeingWrongType);
    }

    // ---- how a run is made ----

    private static void test(String words, Runnable body) {
        sentence = words;
        sentences++;
        try {
            body.run();
        } catch (RuntimeException thrown) {
            wrong++;
            System.out.println(sentence + " [a call threw] " + thrown);
        }
    }

    private static void due(String run, String call, int got, int want) {
        if (got != want) {
            wrong++;
            System.out.println(sentence + " [" + run + "] " + call + " answered " + got + ", due is " + want);
        }
    }

    private static String[] callsOf(String calls) {
        return calls.isEmpty() ? new String[0] : calls.split("; ");
    }

    private static int answer(CoercionDesk x, String call) {
        String[] word = call.split(" ");
        int p = word.length > 1 ? Integer.parseInt(word[1]) : 0;
        int q = word.length > 2 ? Integer.parseInt(word[2]) : 0;
        return switch (word[0]) {
            case "set" -> x.set(p, q);
            case "cast" -> x.cast(p, q);
            case "type" -> x.type();
            case "kind" -> x.kind();
            case "raw" -> x.raw();
            case "call" -> x.call(p, q);
            case "resultKind" -> x.resultKind();
            case "result" -> x.result();
            case "agree" -> x.agree(p, q) ? 1 : 0;
            case "agreeing" -> x.agreeing(p);
            default -> throw new IllegalArgumentException(call);
        };
    }

    private static void make(CoercionDesk x, String run, String call) {
        int sign = call.indexOf(" = ");
        String asked = sign < 0 ? call : call.substring(0, sign);
        int got = answer(x, asked);
        if (sign >= 0) {
            due(run, asked, got, Integer.parseInt(call.substring(sign + 3)));
        } else if (got == BAD) {
            wrong++;
            System.out.println(sentence + " [" + run + "] " + asked + " was refused");
        }
    }

    private static CoercionDesk run(String calls) {
        CoercionDesk x = new CoercionDesk();
        for (String call : callsOf(calls)) {
            make(x, calls, call);
        }
        return x;
    }

    /** Makes first, then loop over and over, then last, so that the last call is the 512th. */
    private static void run512(String first, String loop, String last) {
        String[] before = callsOf(first);
        String[] over = callsOf(loop);
        String[] after = callsOf(last);
        String run = first + "; " + loop + "; ..; " + last;
        CoercionDesk x = new CoercionDesk();
        for (int i = 0; i < CALLS; i++) {
            int fromEnd = i - (CALLS - after.length);
            String call = i < before.length ? before[i]
                : fromEnd >= 0 ? after[fromEnd] : over[(i - before.length) % over.length];
            make(x, run, call);
        }
    }

    /** The call answers BAD after the run, and then the object is as one that was not asked. */
    private static void refused(String run, String call) {
        CoercionDesk asked = run(run);
        CoercionDesk notAsked = run(run);
        due(run, call, answer(asked, call), BAD);
        for (String look : callsOf(LOOK)) {
            due(run, look + " after " + call, answer(asked, look), answer(notAsked, look));
        }
    }

    private static void refusedEverywhere(String call) {
        for (String[] states : new String[][] {WITHOUT_VALUE, PLAIN, AS_ANY, FUNCTIONS}) {
            for (String state : states) {
                refused(state, call);
            }
        }
    }

    private static String join(String first, String then) {
        return first.isEmpty() ? then : first + "; " + then;
    }

    // ---- What it is ----

    private static void set512() {
        run512("", "set 0 1 = 1; set 1 1 = 2; set 2 0 = 7", "set 2 5 = 10");
        run512("", "set 2 1 = 3; cast 4 1 = 0; cast 3 2 = 0", "set 2 1 = 3; call 1 1 = 0");
        run512("", "set 3 0 = -100", "set 0 -2147483648 = 1");
        run512("", "set 2 4 = 4", "set 2 6 = -100");
    }

    private static void cast512() {
        run512("set 0 5 = 1", "cast 0 1 = 0; cast 1 2 = 0", "cast 0 3 = 0; cast 2 9 = 9");
        run512("set 0 5 = 1", "cast 0 1 = 0; cast 1 2 = 0", "cast 0 9 = 0");
        run512("set 2 1 = 3", "cast 5 1 = 0; cast 0 2 = 0; cast 7 3 = 0; cast 3 4 = 0", "cast 7 9 = 0");
        run512("set 2 1 = 3", "cast 0 2 = 0; cast 7 3 = 0", "cast 11 9 = -100");
        run512("", "set 1 1 = 2; cast 0 1 = 0; cast 1 4 = 4; cast 0 1 = -100", "set 1 0; cast 0 1; cast 11 8 = 8");
    }

    private static void look512() {
        run512("set 2 5", "cast 0 1 = 0; cast 6 2 = 0", "cast 9 3 = 0; type = 9");
        run512("set 2 5", "cast 0 1 = 0; cast 6 2 = 0", "cast 9 3 = 0; kind = 2");
        run512("set 2 5", "cast 0 1 = 0; cast 6 2 = 0", "cast 9 3 = 0; raw = 5");
        run512("set 0 -7", "type = 1; kind = 0; raw = -7", "cast 0 1; cast 2 2; type = -100; kind = -100; raw = 0");
    }

    private static void call512() {
        run512("set 2 1; cast 6 7", "cast 3 1 = 0; cast 0 2 = 0; cast 4 3 = 0", "cast 3 4; call 1 1 = -1");
        run512("set 2 0; cast 3 7", "cast 0 1 = 0; cast 3 2 = 0", "cast 3 4; call 0 9 = 0; call 1 1 = -7");
        run512("set 2 1; cast 4 7", "cast 0 1 = 0; cast 3 2 = 0", "cast 3 4; call 0 9 = 0; call 1 1 = 7");
        run512("set 2 1", "cast 3 1 = 0; cast 0 2 = 0", "cast 3 4; cast 5 9; call 1 1 = 0; call 0 1 = 9");
        run512("set 2 1", "cast 0 2 = 0; cast 6 3 = 0", "cast 3 4; cast 6 9; cast 3 8; call 0 3 = 0; call 1 1 = -8");
        run512("set 2 0", "call 0 2147483647 = 0; call 1 0 = -100", "call 0 1 = 0");
    }

    private static void result512() {
        run512("set 2 0", "call 0 4 = 0; result = 5", "call 0 8 = 0; result = 9");
        run512("set 2 3", "call 0 4 = 0; resultKind = 1", "call 0 -4 = 0; resultKind = 1");
        run512("set 2 0; call 0 4", "cast 0 1 = 0; cast 3 2 = 0", "resultKind = 0; result = 5");
        run512("set 2 0", "call 0 4 = 0; set 2 1 = 3; call 1 1 = 0; set 2 0 = 7",
            "set 2 0; resultKind = -100; result = 0");
    }

    private static void agree512() {
        run512("", "agree 3 11 = 1; agreeing 3 = 10; agree 7 11 = 0", "agree 11 5 = 1");
        run512("", "agree 3 11 = 1; agreeing 3 = 10; agree 7 11 = 0", "agreeing 0 = 12");
        run512("set 2 1", "cast 4 1 = 0; cast 0 1 = 0", "agree 12 0 = 0; agreeing 12 = -100; agreeing 11 = 5");
    }

    private static void refused512() {
        String refusals = "set 3 0 = -100; cast 12 1 = -100; cast 0 10 = -100; cast 1 1 = -100; call 2 0 = -100; "
            + "call 1 2 = -100; call 1 1 = -100; agree 12 0 = 0; agreeing -1 = -100";
        run512("set 2 0; call 0 1", refusals, "type = 7; kind = 2; raw = 0; resultKind = 0; result = 2; call 0 8 = 0");
        run512("", "type = -100; kind = -100; raw = 0; cast 0 1 = -100; call 0 1 = -100; set 2 6 = -100",
            "resultKind = -100; result = 0; set 1 1 = 2; raw = 1");
    }

    // ---- Terms ----

    private static void typesEnds() {
        run("agree 0 0 = 1; agree 1 1 = 1; agree 2 2 = 1; agree 3 3 = 1; agree 11 11 = 1");
        run("set 2 1; cast 11 1 = 0; type = 11; cast 3 1 = 0; type = 3; cast 0 1 = 0; type = 0");
        run("set 2 1; cast 3 1 = 0; call 0 5 = 0; cast 11 1 = 0; call 0 5 = -100; call 1 1 = 0");
        run("set 2 1; cast 5 1 = 0; call 0 5 = 1; call 1 1 = 0; cast 3 2 = 0; cast 9 3 = 0; call 0 5 = -100");
    }

    private static void equalOrAnyAgree() {
        for (int t = 0; t <= 11; t++) {
            run("agree " + t + " " + t + " = 1; agree 0 " + t + " = 1; agree " + t + " 0 = 1");
        }
        run("agree 1 2 = 0; agree 2 1 = 0");
        for (int t = 3; t <= 11; t++) {
            run("agree 1 " + t + " = 0; agree " + t + " 1 = 0; agree 2 " + t + " = 0; agree " + t + " 2 = 0");
        }
    }

    private static void functionsAgree() {
        String[] table = {"111111111", "110110110", "101101101", "111111000", "110110000", "101101000",
            "111000111", "110000110", "101000101"};
        for (int s = 3; s <= 11; s++) {
            for (int t = 3; t <= 11; t++) {
                run("agree " + s + " " + t + " = " + table[s - 3].charAt(t - 3));
            }
        }
    }

    private static void numberEnds() {
        for (int n : new int[] {MIN, MIN + 1, -101, BAD, -99, -1, 0, 1, 2, 5, 6, MAX - 1, MAX}) {
            run("set 0 " + n + " = 1; type = 1; kind = 0; raw = " + n
                + "; cast 0 1 = 0; raw = " + n + "; cast 1 2 = 0; type = 1; kind = 0; raw = " + n);
        }
    }

    private static void truthEnds() {
        for (int n = 0; n <= 1; n++) {
            run("set 1 " + n + " = 2; type = 2; kind = 1; raw = " + n
                + "; cast 0 1 = 0; raw = " + n + "; cast 2 2 = 0; type = 2; kind = 1; raw = " + n);
        }
    }

    private static void called(int function, int argKind, int n, int kind, int result) {
        run("set 2 " + function + " = " + OWN_TYPES[function] + "; call " + argKind + " " + n
            + " = 0; resultKind = " + kind + "; result = " + result);
    }

    private static void function0Wraps() {
        called(0, 0, MAX, 0, MIN);
        called(0, 0, MAX - 1, 0, MAX);
        called(0, 0, MIN, 0, MIN + 1);
        called(0, 0, -1, 0, 0);
        called(0, 0, 0, 0, 1);
        run("set 2 0; cast 0 1; cast 3 2; call 0 2147483647 = 0; resultKind = 0; result = -2147483648");
    }

    private static void function1Itself() {
        for (int n : new int[] {MIN, BAD, -1, 0, 1, 2, MAX}) {
            called(1, 0, n, 0, n);
        }
        called(1, 1, 0, 1, 0);
        called(1, 1, 1, 1, 1);
    }

    private static void function2Negates() {
        called(2, 1, 0, 1, 1);
        called(2, 1, 1, 1, 0);
    }

    private static void function3AboveZero() {
        called(3, 0, MIN, 1, 0);
        called(3, 0, -1, 1, 0);
        called(3, 0, 0, 1, 0);
        called(3, 0, 1, 1, 1);
        called(3, 0, 2, 1, 1);
        called(3, 0, MAX, 1, 1);
    }

    private static void function4Seven() {
        for (int n : new int[] {MIN, 0, 1, 7, MAX}) {
            called(4, 0, n, 0, 7);
        }
        called(4, 1, 0, 0, 7);
        called(4, 1, 1, 0, 7);
    }

    private static void function5Number() {
        called(5, 1, 0, 0, 0);
        called(5, 1, 1, 0, 1);
    }

    private static void labelEnds() {
        for (int label = 1; label <= 9; label++) {
            run("set 0 5; cast 1 " + label + " = 0; cast 0 " + label + " = 0; cast 2 " + label + " = " + label);
            run("set 2 0; cast 3 " + label + " = 0; call 1 1 = " + -label);
            run("set 2 1; cast 4 " + label + " = 0; call 1 1 = " + label);
        }
    }

    private static void toAnyChangesTypeOnly() {
        run("set 0 -5; cast 0 1 = 0; type = 0; kind = 0; raw = -5");
        run("set 1 1; cast 0 9 = 0; type = 0; kind = 1; raw = 1");
        run("set 1 0; cast 0 9 = 0; type = 0; kind = 1; raw = 0");
    }

    private static void toItselfNothing() {
        run("set 0 -5; cast 1 1 = 0; type = 1; kind = 0; raw = -5");
        run("set 1 1; cast 2 1 = 0; type = 2; kind = 1; raw = 1");
        run("set 0 -5; cast 0 1; cast 0 2 = 0; type = 0; kind = 0; raw = -5; cast 1 3 = 0");
        run("set 1 1; cast 0 1; cast 0 2 = 0; type = 0; kind = 1; raw = 1; cast 2 3 = 0");
        for (int f = 0; f <= 5; f++) {
            run("set 2 " + f + "; cast 0 1; cast 0 2 = 0; type = 0; kind = 2; raw = " + f);
            sameAfterCastToItself("set 2 " + f, OWN_TYPES[f]);
            for (int t = 0; t <= 11; t++) {
                if (t < 1 || t > 2) {
                    sameAfterCastToItself("set 2 " + f + "; cast 0 1; cast " + t + " 2", t);
                }
            }
        }
    }

    private static void sameAfterCastToItself(String run, int t) {
        CoercionDesk cast = run(join(run, "cast " + t + " 5 = 0"));
        CoercionDesk notCast = run(run);
        for (String look : callsOf(LOOK)) {
            due(run, look + " after a cast to itself", answer(cast, look), answer(notCast, look));
        }
    }

    private static final String GONE = "type = -100; kind = -100; raw = 0";

    private static void failsUnlessPlain() {
        run("set 0 5; cast 0 1; cast 1 9 = 0; type = 1; kind = 0; raw = 5");
        run("set 1 1; cast 0 1; cast 2 9 = 0; type = 2; kind = 1; raw = 1");
        for (int n : new int[] {MIN, -1, 0, 1, MAX}) {
            run("set 0 " + n + "; cast 0 1; cast 2 9 = 9; " + GONE);
        }
        run("set 1 0; cast 0 1; cast 1 8 = 8; " + GONE);
        run("set 1 1; cast 0 1; cast 1 8 = 8; " + GONE);
        for (int f = 0; f <= 5; f++) {
            run("set 2 " + f + "; cast 0 1; cast 1 7 = 7; " + GONE);
            run("set 2 " + f + "; cast 0 1; cast 2 6 = 6; " + GONE);
        }
    }

    private static void argumentFailsUnlessPlain() {
        run("set 2 0; cast 3 5; call 0 1 = 0; call 1 1 = -5; call 1 0 = -5");
        run("set 2 2; cast 3 5; call 1 1 = 0; call 0 1 = -5; call 0 0 = -5");
    }

    private static void resultFailsUnlessPlain() {
        run("set 2 1; cast 4 5; call 0 1 = 0; call 1 1 = 5; call 1 0 = 5");
        run("set 2 1; cast 5 5; call 1 1 = 0; call 0 1 = 5; call 0 0 = 5");
        run("set 2 4; cast 3 1; cast 5 6; call 0 1 = 6; call 1 1 = 6; cast 4 7 = -100; call 0 1 = 6");
    }

    private static void failsUnlessFunction() {
        for (int t = 3; t <= 11; t++) {
            run("set 0 0; cast 0 1; cast " + t + " 9 = 9; " + GONE);
            run("set 1 1; cast 0 1; cast " + t + " 1 = 1; " + GONE);
            for (int f = 0; f <= 5; f++) {
                run("set 2 " + f + "; cast 0 1; cast " + t + " 2 = 0; type = " + t + "; kind = 2; raw = " + f);
            }
        }
    }

    private static void fromAnyWraps() {
        run("set 2 1; cast 0 1; cast 4 2; call 0 3 = 0; call 1 1 = 2");
        run("set 2 1; cast 0 1; cast 5 2; call 1 1 = 0; call 0 3 = 2");
        run("set 2 2; cast 0 1; cast 7 2; call 0 3 = -1");
        run("set 2 2; cast 0 1; cast 10 2; call 1 1 = 2");
    }

    private static void toAnyWraps() {
        run("set 2 0; cast 0 4; cast 3 5; call 1 1 = -4; call 0 1 = 0");
        run("set 2 5; cast 0 4; cast 6 5; call 0 1 = -4");
        run("set 2 1; cast 11 3; cast 0 4; cast 3 5; call 0 1 = -4; call 1 1 = 0");
    }

    private static void toAnyIsAny() {
        for (int f = 0; f <= 5; f++) {
            run("set 2 " + f + "; cast 0 1 = 0; type = 0; call 0 1 = -100; call 1 1 = -100");
        }
    }

    private static void negativeToBlame() {
        run("set 2 0; cast 4 1; call 1 1 = -1");
        run("set 2 0; cast 4 9; call 1 1 = -9");
        run("set 2 5; cast 3 9; call 0 1 = -9");
        run("set 2 1; cast 6 1; cast 3 2; call 1 1 = -2; call 0 1 = 0");
    }

    private static void labelToBlame() {
        run("set 2 1; cast 7 1; call 0 1 = 0; cast 3 2; cast 5 9; call 0 1 = 9");
        run("set 2 1; cast 8 1; call 0 1 = 1");
        run("set 2 1; cast 10 9; call 1 0 = 9");
    }

    private static final String[] FAILS = {
        "set 0 5; cast 0 1; cast 2 3 = 3",
        "set 0 5; cast 0 1; cast 3 3 = 3",
        "set 1 1; cast 0 1; cast 1 3 = 3",
        "set 1 1; cast 0 1; cast 11 3 = 3",
        "set 2 4; cast 0 1; cast 1 3 = 3",
        "set 2 4; cast 3 1; cast 0 1; cast 2 3 = 3"};

    private static void failedIsGone() {
        for (String fails : FAILS) {
            run(fails + "; " + GONE);
        }
    }

    private static void goneUntilSet() {
        for (String fails : FAILS) {
            run(fails + "; cast 0 1 = -100; cast 1 1 = -100; cast 3 1 = -100; call 0 1 = -100; call 1 1 = -100; "
                + "set 2 6 = -100; set 1 2 = -100; " + GONE);
            run(fails + "; set 0 9 = 1; type = 1; kind = 0; raw = 9; cast 0 1 = 0; cast 1 1 = 0");
            run(fails + "; set 1 1 = 2; type = 2; kind = 1; raw = 1; cast 0 1 = 0; cast 2 1 = 0");
            run(fails + "; set 2 1 = 3; type = 3; kind = 2; raw = 1; call 0 4 = 0; result = 4; call 1 1 = 0");
        }
    }

    // ---- Promises 1 to 3 ----

    private static void newHasNoValue() {
        run("type = -100");
        run("kind = -100");
        run("raw = 0");
        run("resultKind = -100");
        run("result = 0");
        run("call 0 0 = -100");
        run("call 1 1 = -100");
        for (int t = 0; t <= 11; t++) {
            run("cast " + t + " 1 = -100");
        }
    }

    private static void setAnswersType() {
        run("set 0 0 = 1; kind = 0; set 1 0 = 2; kind = 1; set 2 0 = 7; kind = 2");
        for (int f = 0; f <= 5; f++) {
            run("set 2 " + f + " = " + OWN_TYPES[f] + "; type = " + OWN_TYPES[f] + "; kind = 2; raw = " + f);
        }
    }

    private static void setReplaces() {
        run("set 2 0; cast 3 1; call 1 1 = -1; set 2 1 = 3; call 1 1 = 0; call 0 1 = 0");
        run("set 2 2; cast 3 1; call 0 1 = -1; set 2 1 = 3; call 1 1 = 0; call 0 1 = 0");
        run("set 2 1; cast 4 1; call 1 1 = 1; set 2 1 = 3; call 1 1 = 0; call 0 1 = 0");
        run("set 2 1; cast 5 1; call 0 1 = 1; set 2 1 = 3; call 1 1 = 0; call 0 1 = 0");
        run("set 2 1; cast 0 1; set 0 4 = 1; type = 1; kind = 0; raw = 4; call 0 1 = -100");
        run("set 2 1; cast 4 1; set 0 4; set 2 1 = 3; call 1 1 = 0");
    }

    private static void setWrongKind() {
        for (int kind : new int[] {MIN, BAD, -1, 3, 4, MAX}) {
            refusedEverywhere("set " + kind + " 0");
            refusedEverywhere("set " + kind + " 1");
        }
    }

    private static void setWrongTruth() {
        for (int n : new int[] {MIN, BAD, -1, 2, 5, MAX}) {
            refusedEverywhere("set 1 " + n);
        }
    }

    private static void setWrongFunction() {
        for (int n : new int[] {MIN, BAD, -1, 6, 7, MAX}) {
            refusedEverywhere("set 2 " + n);
        }
    }

    private static void castWithoutValue() {
        for (String state : WITHOUT_VALUE) {
            for (int t = 0; t <= 11; t++) {
                refused(state, "cast " + t + " 1");
                refused(state, "cast " + t + " 9");
            }
        }
    }

    private static void castWrongType() {
        for (int t : new int[] {MIN, BAD, -1, 12, 13, MAX}) {
            refusedEverywhere("cast " + t + " 1");
            refusedEverywhere("cast " + t + " 9");
        }
    }

    private static void castWrongLabel() {
        for (int label : new int[] {MIN, BAD, -9, -1, 0, 10, MAX}) {
            for (int t = 0; t <= 11; t++) {
                refusedEverywhere("cast " + t + " " + label);
            }
        }
    }

    private static final String[] AGREEMENT = {"111111111111", "110000000000", "101000000000", "100111111111",
        "100110110110", "100101101101", "100111111000", "100110110000", "100101101000", "100111000111",
        "100110000110", "100101000101"};

    private static void castDisagrees() {
        for (String[] states : new String[][] {PLAIN, FUNCTIONS}) {
            for (String state : states) {
                String agrees = AGREEMENT[run(state).type()];
                for (int t = 0; t <= 11; t++) {
                    if (agrees.charAt(t) == '0') {
                        refused(state, "cast " + t + " 1");
                        refused(state, "cast " + t + " 9");
                    }
                }
            }
        }
    }

    private static void castAnswers() {
        for (String[] states : new String[][] {PLAIN, FUNCTIONS}) {
            for (String state : states) {
                String agrees = AGREEMENT[run(state).type()];
                for (int t = 0; t <= 11; t++) {
                    if (agrees.charAt(t) == '1') {
                        run(join(state, "cast " + t + " 6 = 0; type = " + t));
                    }
                }
            }
        }
        run("set 0 5; cast 0 1 = 0; cast 2 1 = 1");
        run("set 0 5; cast 0 1 = 0; cast 11 9 = 9");
    }

    // ---- Promises 4 to 6 ----

    private static void withoutValue(String call, int answer) {
        for (String state : WITHOUT_VALUE) {
            run(join(state, call + " = " + answer));
        }
        for (String fails : FAILS) {
            run(join(fails, call + " = " + answer));
        }
    }

    private static void kindWhateverType() {
        run("set 0 5; kind = 0; cast 0 1; kind = 0; cast 1 1; kind = 0");
        run("set 1 1; kind = 1; cast 0 1; kind = 1; cast 2 1; kind = 1");
        run("set 2 1; kind = 2; cast 0 1; kind = 2; cast 7 1; kind = 2; cast 0 1; cast 11 1; kind = 2");
    }

    private static void rawInnermost() {
        for (int f = 0; f <= 5; f++) {
            run("set 2 " + f + "; raw = " + f + "; cast 0 1; raw = " + f + "; cast 7 2; raw = " + f
                + "; call 0 9; raw = " + f + "; cast 3 3; cast 11 4; call 1 1; raw = " + f);
        }
    }

    // ---- Promise 7 ----

    private static void callWithoutValue() {
        for (String state : WITHOUT_VALUE) {
            refused(state, "call 0 0");
            refused(state, "call 0 5");
            refused(state, "call 1 0");
            refused(state, "call 1 1");
        }
    }

    private static void callNoFunctionType() {
        for (String[] states : new String[][] {PLAIN, AS_ANY}) {
            for (String state : states) {
                refused(state, "call 0 0");
                refused(state, "call 0 5");
                refused(state, "call 1 0");
                refused(state, "call 1 1");
            }
        }
    }

    private static void callWrongKind() {
        for (int argKind : new int[] {MIN, BAD, -1, 2, 3, MAX}) {
            refusedEverywhere("call " + argKind + " 0");
            refusedEverywhere("call " + argKind + " 1");
        }
    }

    private static void callWrongTruth() {
        for (int n : new int[] {MIN, BAD, -1, 2, 7, MAX}) {
            refusedEverywhere("call 1 " + n);
        }
    }

    private static void callFromNumber() {
        for (String from : new String[] {"set 2 0", "set 2 3; call 0 1", "set 2 1; call 1 0; cast 6 1",
            "set 2 1; cast 7 1", "set 2 4; cast 7 1", "set 2 5; cast 0 1; cast 7 2"}) {
            refused(from, "call 1 0");
            refused(from, "call 1 1");
        }
    }

    private static void callFromTruth() {
        for (String from : new String[] {"set 2 2", "set 2 5; call 1 1", "set 2 1; call 0 5; cast 9 1",
            "set 2 1; cast 10 1", "set 2 4; cast 10 1", "set 2 0; cast 0 1; cast 11 2"}) {
            refused(from, "call 0 0");
            refused(from, "call 0 1");
            refused(from, "call 0 -2147483648");
        }
    }

    private static void callBadBeforeBlame() {
        refused("set 2 0; cast 3 4", "call 1 2");
        refused("set 2 0; cast 3 4", "call 1 -1");
        refused("set 2 0; cast 3 4; cast 6 5", "call 1 1");
        refused("set 2 1; cast 5 4", "call 2 1");
        refused("set 2 1; cast 8 4", "call 1 1");
    }

    private static void firstArgumentCast() {
        run("set 2 0; cast 3 1; cast 3 2; call 1 1 = -1");
        run("set 2 1; cast 6 1; cast 3 2; cast 6 3; cast 3 4; call 1 1 = -4; call 0 1 = 0");
        run("set 2 1; cast 6 1; cast 3 2; cast 9 3; cast 3 4; call 1 1 = -2; call 0 1 = -4");
        run("set 2 1; cast 9 1; cast 3 2; cast 6 3; cast 3 4; call 1 1 = -4; call 0 1 = -2");
    }

    private static void firstResultCast() {
        run("set 2 1; cast 4 1; cast 3 2; cast 4 3; cast 3 4; call 1 1 = 1; call 0 1 = 0");
        run("set 2 1; cast 4 1; cast 3 2; cast 5 3; cast 3 4; call 1 1 = 1; call 0 1 = 3");
        run("set 2 1; cast 5 1; cast 3 2; cast 4 3; cast 3 4; call 1 1 = 3; call 0 1 = 1");
    }

    private static void argumentBeforeResult() {
        run("set 2 1; cast 5 1; cast 3 2; cast 9 3; cast 3 4; call 0 1 = -4; call 1 1 = 0");
        run("set 2 1; cast 4 1; cast 7 2; cast 3 3; call 1 1 = -3; call 0 1 = 0");
        run("set 2 1; cast 8 1; cast 3 2; call 0 1 = 1; call 1 1 = -2");
    }

    private static void callKeepsValue() {
        for (String state : FUNCTIONS) {
            for (String call : new String[] {"call 0 0", "call 0 2147483647", "call 1 0", "call 1 1", "call 1 2"}) {
                CoercionDesk called = run(state);
                CoercionDesk notCalled = run(state);
                answer(called, call);
                for (String look : new String[] {"type", "kind", "raw", "call 0 5", "call 1 1", "cast 0 9", "type",
                    "cast 3 8", "call 0 5", "call 1 1", "kind", "raw"}) {
                    due(state, look + " after " + call, answer(called, look), answer(notCalled, look));
                }
            }
        }
    }

    // ---- Promises 8 to 11 ----

    private static void lastOkKind() {
        run("set 2 1; call 0 5 = 0; resultKind = 0; call 1 1 = 0; resultKind = 1; call 0 5 = 0; resultKind = 0");
        run("set 2 1; call 1 1; call 2 0 = -100; resultKind = 1; cast 4 3; call 1 1 = 3; resultKind = 1");
        run("set 2 2; call 1 1; cast 3 3; resultKind = 1; call 0 1 = -3; resultKind = 1");
        run("set 2 5; call 1 1 = 0; resultKind = 0; set 2 3; call 0 1 = 0; resultKind = 1");
        run("set 2 2; call 1 1; set 2 6 = -100; set 3 0 = -100; set 1 2 = -100; resultKind = 1");
        run("set 2 2; call 1 1; cast 0 1; cast 1 2 = 2; resultKind = 1");
    }

    private static void noResultKind() {
        run("resultKind = -100; set 0 1; resultKind = -100; set 2 0; resultKind = -100");
        run("set 2 0; call 1 1 = -100; resultKind = -100; cast 3 1; call 1 1 = -1; resultKind = -100");
        run("set 2 1; cast 4 1; call 1 1 = 1; resultKind = -100");
        run("set 2 0; call 0 1 = 0; set 2 0; resultKind = -100");
        run("set 2 0; call 0 1 = 0; set 0 5; resultKind = -100");
        run("set 2 0; call 0 1 = 0; set 1 1; resultKind = -100");
    }

    private static void lastOkResult() {
        run("set 2 0; call 0 5 = 0; result = 6; call 0 6 = 0; result = 7; call 1 1 = -100; result = 7");
        run("set 2 0; call 0 5; cast 3 3; result = 6; call 1 1 = -3; result = 6; call 0 -101 = 0; result = -100");
        run("set 2 1; call 0 -9; cast 5 3; call 0 4 = 3; result = -9; call 1 1 = 0; result = 1");
        run("set 2 0; call 0 5; set 2 6 = -100; set 3 0 = -100; set 1 2 = -100; result = 6");
        run("set 2 0; call 0 5; cast 0 1; cast 1 2 = 2; result = 6");
    }

    private static void noResult() {
        run("result = 0; set 0 1; result = 0; set 2 0; result = 0");
        run("set 2 0; call 1 1 = -100; result = 0; cast 3 1; call 1 1 = -1; result = 0");
        run("set 2 1; cast 4 1; call 1 1 = 1; result = 0");
        run("set 2 0; call 0 1 = 0; set 2 0; result = 0");
        run("set 2 0; call 0 1 = 0; set 0 5; result = 0");
        run("set 2 0; call 0 1 = 0; set 1 1; result = 0");
    }

    private static void agreeWrongType() {
        for (int w : new int[] {MIN, BAD, -1, 12, 13, MAX}) {
            for (int t = 0; t <= 11; t++) {
                run("agree " + w + " " + t + " = 0; agree " + t + " " + w + " = 0");
            }
            run("agree " + w + " " + w + " = 0");
        }
        run("agree -1 12 = 0; agree 12 -1 = 0");
    }

    private static void agreeingEnds() {
        run("agreeing 0 = 12; agreeing 1 = 2; agreeing 2 = 2; agreeing 3 = 10; agreeing 4 = 7; agreeing 5 = 7");
        run("agreeing 6 = 7; agreeing 7 = 5; agreeing 8 = 5; agreeing 9 = 7; agreeing 10 = 5; agreeing 11 = 5");
    }

    private static void agreeingWrongType() {
        for (int w : new int[] {MIN, BAD, -1, 12, 13, MAX}) {
            run("agreeing " + w + " = -100");
        }
    }
}
