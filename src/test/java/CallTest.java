/** Promise 8: call: its phases, and the single most specific one; KeptTest has what is kept. */
public final class CallTest {
    public static void main(String[] args) {
        phaseOne();
        phaseTwo();
        phaseThree();
        nullValues();
        moreSpecific();
        moreSpecificOfVariableOnes();
        mostValues();
        onlyWhatIsMeant();
        wrongOnes();
        Checks.end();
    }

    private static MemberChooser withClass() {
        MemberChooser x = new MemberChooser();
        x.type(-1);
        return x;
    }

    private static void phaseOne() {
        MemberChooser x = withClass();
        Checks.fixed(x, 8, 0);
        Checks.fixed(x, 8, 0, Checks.BOXED_INT);
        Checks.fixed(x, 8, 0, Checks.INT);
        Checks.fixed(x, 8, 0, Checks.ANY);
        Checks.fixed(x, 8, 0, 8, Checks.TEXT);
        Checks.variable(x, 8, 0, Checks.TEXT);
        Checks.dueCall(x, 0, 8, 0);
        Checks.dueCall(x, 1, 8, 0, Checks.BOXED_INT);
        Checks.dueCount(x, 1, 5);
        Checks.dueCall(x, 3, 8, 0, Checks.BOXED_LONG);
        Checks.dueCall(x, 3, 8, 0, Checks.TEXT);
        Checks.dueCall(x, 3, 8, 0, Checks.ANY);
        Checks.dueCall(x, 3, 8, 0, 8);
        Checks.dueCall(x, 4, 8, 0, 8, Checks.TEXT);
        Checks.dueCount(x, 1, 5);
        Checks.dueCall(x, Checks.UNFIT, 8, 0, Checks.ANY, Checks.TEXT);
        Checks.dueCount(x, 0, 5);
        Checks.dueCall(x, Checks.UNFIT, 8, 1);
    }

    /** Each boxed one goes to its own primitive, Int to long too, and nothing else does. */
    private static void phaseTwo() {
        for (int value = 3; value <= 8; value++) {
            for (int primitive = 0; primitive <= 2; primitive++) {
                MemberChooser x = withClass();
                Checks.fixed(x, 8, 0, primitive);
                boolean fits = value - 3 == primitive
                        || (value == Checks.BOXED_INT && primitive == Checks.LONG);
                Checks.dueCall(x, fits ? 0 : Checks.UNFIT, 8, 0, value);
                Checks.dueCount(x, fits ? 2 : 0, 5);
            }
        }
        MemberChooser x = withClass();
        Checks.fixed(x, 8, 0, Checks.LONG);
        Checks.fixed(x, 8, 0, Checks.INT);
        Checks.fixed(x, 8, 0, Checks.INT, Checks.ANY);
        Checks.variable(x, 8, 0, Checks.BOXED_INT);
        Checks.dueCall(x, 1, 8, 0, Checks.BOXED_INT);
        Checks.dueCount(x, 2, 5);
        Checks.dueCall(x, 0, 8, 0, Checks.BOXED_LONG);
        Checks.dueCall(x, 2, 8, 0, Checks.BOXED_INT, Checks.BOXED_INT);
        Checks.dueCount(x, 2, 5);
        Checks.dueCall(x, Checks.UNFIT, 8, 0, Checks.BOXED_LONG, Checks.BOXED_INT);
    }

    private static void phaseThree() {
        MemberChooser x = withClass();
        Checks.variable(x, 8, 0, Checks.TEXT, Checks.INT);
        Checks.dueCall(x, Checks.UNFIT, 8, 0);
        Checks.dueCall(x, 0, 8, 0, Checks.TEXT);
        Checks.dueCount(x, 3, 5);
        Checks.dueCall(x, 0, 8, 0, Checks.TEXT, Checks.BOXED_INT);
        Checks.dueCount(x, 3, 5);
        Checks.dueCall(x, 0, 8, 0, Checks.TEXT, Checks.BOXED_INT, Checks.BOXED_INT);
        Checks.dueCall(x, Checks.UNFIT, 8, 0, Checks.TEXT, Checks.BOXED_INT, Checks.BOXED_LONG);
        Checks.dueCall(x, Checks.UNFIT, 8, 0, Checks.TEXT, Checks.BOXED_LONG, Checks.BOXED_INT);
        Checks.dueCall(x, Checks.UNFIT, 8, 0, Checks.BOXED_INT);
        Checks.variable(x, 8, 1, Checks.BOOL);
        Checks.dueCall(x, 1, 8, 1);
        Checks.dueCall(x, 1, 8, 1, Checks.BOXED_BOOL);
        Checks.variable(x, 8, 2, Checks.LONG, Checks.ANY);
        Checks.dueCall(x, 2, 8, 2, Checks.BOXED_INT, Checks.TEXT, Checks.NULL);
        Checks.dueCount(x, 3, 5);
    }

    private static void nullValues() {
        MemberChooser x = withClass();
        Checks.fixed(x, 8, 0, Checks.INT);
        Checks.dueCall(x, Checks.UNFIT, 8, 0, Checks.NULL);
        Checks.fixed(x, 8, 0, Checks.ANY);
        Checks.dueCall(x, 1, 8, 0, Checks.NULL);
        Checks.dueCount(x, 1, 5);
        Checks.fixed(x, 8, 0, Checks.TEXT);
        Checks.dueCall(x, 2, 8, 0, Checks.NULL);
        Checks.fixed(x, 8, 0, 8);
        Checks.dueCall(x, Checks.AMBIGUOUS, 8, 0, Checks.NULL);
        Checks.dueCount(x, 1, 5);
        Checks.variable(x, 8, 1, Checks.BOOL);
        Checks.dueCall(x, Checks.UNFIT, 8, 1, Checks.NULL);
        Checks.variable(x, 8, 1, Checks.BOXED_BOOL);
        Checks.dueCall(x, 5, 8, 1, Checks.NULL);
    }

    private static void moreSpecific() {
        MemberChooser x = withClass();
        x.type(8);
        x.face();
        x.join(9, 10);
        Checks.fixed(x, 8, 0, 8);
        Checks.fixed(x, 8, 0, 10);
        Checks.dueCall(x, Checks.AMBIGUOUS, 8, 0, 9);
        Checks.dueCount(x, 1, 5);
        Checks.dueCall(x, 0, 8, 0, 8);
        Checks.dueCall(x, 1, 8, 0, 10);
        Checks.fixed(x, 8, 0, 9);
        Checks.dueCall(x, 2, 8, 0, 9);
        Checks.fixed(x, 8, 1, Checks.LONG, Checks.INT);
        Checks.fixed(x, 8, 1, Checks.INT, Checks.LONG);
        Checks.dueCall(x, Checks.AMBIGUOUS, 8, 1, Checks.BOXED_INT, Checks.BOXED_INT);
        Checks.dueCount(x, 2, 5);
        Checks.dueCall(x, 4, 8, 1, Checks.BOXED_INT, Checks.BOXED_LONG);
        Checks.fixed(x, 8, 2, Checks.BOXED_INT, Checks.INT);
        Checks.fixed(x, 8, 2, Checks.INT, Checks.INT);
        Checks.dueCall(x, Checks.AMBIGUOUS, 8, 2, Checks.BOXED_INT, Checks.BOXED_INT);
        Checks.fixed(x, 8, 3, Checks.ANY, Checks.INT);
        Checks.fixed(x, 8, 3, Checks.BOXED_INT, Checks.INT);
        Checks.dueCall(x, 8, 8, 3, Checks.BOXED_INT, Checks.BOXED_INT);
        threeOfWhichOneStandsApart();
    }

    /** The most specific of two is not that of all three. */
    private static void threeOfWhichOneStandsApart() {
        MemberChooser x = withClass();
        Checks.fixed(x, 8, 0, Checks.ANY, Checks.TEXT);
        Checks.fixed(x, 8, 0, Checks.TEXT, Checks.ANY);
        Checks.fixed(x, 8, 0, Checks.ANY, Checks.ANY);
        Checks.dueCall(x, Checks.AMBIGUOUS, 8, 0, Checks.TEXT, Checks.TEXT);
        Checks.dueCall(x, 2, 8, 0, 8, 8);
        Checks.dueCall(x, 0, 8, 0, 8, Checks.TEXT);
        Checks.dueCall(x, 1, 8, 0, Checks.TEXT, 8);
    }

    private static void moreSpecificOfVariableOnes() {
        MemberChooser x = withClass();
        Checks.variable(x, 8, 0, Checks.INT);
        Checks.variable(x, 8, 0, Checks.LONG);
        Checks.dueCall(x, 0, 8, 0, Checks.BOXED_INT);
        Checks.dueCall(x, 0, 8, 0);
        Checks.dueCall(x, 1, 8, 0, Checks.BOXED_LONG, Checks.BOXED_INT);
        // Both are more specific than the other one: several such.
        Checks.variable(x, 8, 1, Checks.TEXT);
        Checks.variable(x, 8, 1, Checks.TEXT, Checks.TEXT);
        Checks.dueCall(x, Checks.AMBIGUOUS, 8, 1, Checks.TEXT);
        Checks.dueCount(x, 3, 5);
        Checks.dueCall(x, 2, 8, 1);
        // The longer one is looked at to its end, though the call has fewer values.
        Checks.variable(x, 8, 2, Checks.TEXT);
        Checks.variable(x, 8, 2, Checks.TEXT, Checks.ANY);
        Checks.dueCall(x, 4, 8, 2, Checks.TEXT);
        Checks.dueCall(x, 5, 8, 2, Checks.TEXT, 8);
        Checks.variable(x, 8, 3, Checks.ANY);
        Checks.variable(x, 8, 3, Checks.TEXT, Checks.TEXT);
        Checks.dueCall(x, 7, 8, 3, Checks.TEXT, Checks.TEXT, Checks.TEXT);
        Checks.dueCall(x, 6, 8, 3, Checks.TEXT, Checks.TEXT, 8);
        Checks.variable(x, 8, 4, Checks.TEXT, Checks.ANY);
        Checks.variable(x, 8, 4, Checks.ANY, Checks.TEXT);
        Checks.dueCall(x, Checks.AMBIGUOUS, 8, 4, Checks.TEXT, Checks.TEXT);
    }

    private static void mostValues() {
        MemberChooser x = withClass();
        int t = Checks.TEXT;
        int a = Checks.ANY;
        Checks.fixed(x, 8, 0, t, t, t, a);
        Checks.variable(x, 8, 0, t, t, t, t);
        Checks.fixed(x, 8, 1, t, t, t, a);
        Checks.variable(x, 8, 1, t, t, a, a);
        Checks.dueCall(x, 1, 8, 0, t, t, t, t, t, t);
        Checks.dueCall(x, Checks.UNFIT, 8, 0, t, t, t, t, t, a);
        Checks.dueCall(x, 3, 8, 1, t, t, t, t, a, t);
        Checks.dueCall(x, 2, 8, 1, t, t, t, 8);
        Checks.due(1, "call with bytes beyond the sixth",
                () -> x.call(8, 0, 6, Checks.row(t, t, t, t, t, t, 0, 200)));
        Checks.dueCount(x, 1, 4);
    }

    private static void onlyWhatIsMeant() {
        MemberChooser x = withClass();
        x.type(8);
        x.face();
        x.join(8, 10);
        Checks.fixed(x, 8, 0, Checks.TEXT);
        Checks.fixed(x, 10, 0, Checks.TEXT);
        Checks.fixed(x, 10, 0, Checks.ANY);
        Checks.fixed(x, 9, 0, Checks.INT);
        Checks.dueCall(x, 0, 9, 0, Checks.TEXT);
        Checks.dueCall(x, 2, 9, 0, Checks.BOXED_INT);
        Checks.dueCall(x, 1, 10, 0, Checks.TEXT);
        Checks.dueCall(x, 2, 8, 0, Checks.BOXED_INT);
        // A hidden one does not fit, be the one that hides it variable or not.
        Checks.variable(x, 9, 0, Checks.ANY);
        Checks.dueCall(x, 3, 9, 0, Checks.BOXED_INT);
        Checks.dueCall(x, 4, 9, 0, Checks.BOXED_LONG);
    }

    private static void wrongOnes() {
        MemberChooser x = withClass();
        Checks.variable(x, 8, 0, Checks.ANY);
        for (int none : new int[] {-1, 0, 3, 7, 9, 32, Integer.MIN_VALUE, Integer.MAX_VALUE}) {
            Checks.dueCall(x, Checks.IAE, none, 0);
        }
        for (int none : new int[] {-1, 10, Integer.MIN_VALUE, Integer.MAX_VALUE}) {
            Checks.dueCall(x, Checks.IAE, 8, none);
        }
        for (int none : new int[] {-1, 7, 8, 64, Integer.MIN_VALUE, Integer.MAX_VALUE}) {
            Checks.due(Checks.IAE, "call(8, 0, " + none + ", -1)",
                    () -> x.call(8, 0, none, -1L));
        }
        for (int none : new int[] {0, 1, 2, 9, 31, 32, 127, 128, 254}) {
            Checks.dueCall(x, Checks.IAE, 8, 0, none);
            Checks.dueCall(x, Checks.IAE, 8, 0, 3, 4, 5, 6, 7, none);
        }
        Checks.dueCount(x, 0, 2);
        Checks.dueCount(x, 0, 3);
        Checks.dueCount(x, 0, 4);
        Checks.dueCall(x, 0, 8, 0, 3, 4, 5, 6, 7, 8);
        Checks.due(0, "call(8, 0, 6, -1)", () -> x.call(8, 0, 6, -1L));
        Checks.dueCount(x, 2, 2);
    }
}
