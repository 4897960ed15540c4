/** What README.md shows of the desk, call for call: whoever alters one alters the other. */
public final class ReadmeTest {
    private static final int BAD = CoercionDesk.BAD;
    private static final int OK = CoercionDesk.OK;

    private static int wrong = 0;

    private static void due(String call, int got, int want) {
        if (got != want) {
            wrong++;
            System.out.println(call + " answered " + got + ", README.md says " + want);
        }
    }

    public static void main(String[] args) {
        example();
        functions();
        due("BAD", BAD, -100);
        due("OK", OK, 0);
        System.out.println(wrong == 0 ? "README.md is as the class" : wrong + " answers are not as README.md says");
        if (wrong != 0) {
            System.exit(1);
        }
    }

    private static void example() {
        CoercionDesk desk = new CoercionDesk();

        due("desk.set(2, 0)", desk.set(2, 0), 7);
        due("desk.cast(3, 4)", desk.cast(3, 4), OK);
        due("desk.call(0, 5)", desk.call(0, 5), OK);
        due("desk.resultKind()", desk.resultKind(), 0);
        due("desk.result()", desk.result(), 6);
        due("desk.call(1, 1)", desk.call(1, 1), -4);
        due("desk.result()", desk.result(), 6);

        due("desk.set(2, 1)", desk.set(2, 1), 3);
        due("desk.cast(4, 8)", desk.cast(4, 8), OK);
        due("desk.call(1, 1)", desk.call(1, 1), 8);

        due("desk.set(0, 5)", desk.set(0, 5), 1);
        due("desk.cast(2, 1)", desk.cast(2, 1), BAD);
        due("desk.cast(0, 1)", desk.cast(0, 1), OK);
        due("desk.cast(2, 9)", desk.cast(2, 9), 9);
        due("desk.type()", desk.type(), BAD);
    }

    private static void functions() {
        int[] ownTypes = {7, 3, 11, 8, 4, 10};
        int[] argKinds = {0, 0, 1, 0, 0, 1};
        int[] ofOne = {2, 1, 0, 1, 7, 1};
        for (int n = 0; n < ownTypes.length; n++) {
            CoercionDesk desk = new CoercionDesk();
            due("set(2, " + n + ")", desk.set(2, n), ownTypes[n]);
            due("function " + n + " of 1", desk.call(argKinds[n], 1), OK);
            due("the result of function " + n + " of 1", desk.result(), ofOne[n]);
        }
    }
}
