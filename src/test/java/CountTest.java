/** Promise 11: count; KeptTest has more of what 2 to 5. */
public final class CountTest {
    public static void main(String[] args) {
        MemberChooser x = new MemberChooser();
        dueAll(x, 0, 0, 0, 0, 0, 0);
        x.type(-1);
        x.face();
        dueAll(x, 2, 0, 0, 0, 0, 0);
        Checks.fixed(x, 8, 0, Checks.ANY);
        Checks.fixed(x, 8, 0, Checks.INT, Checks.INT);
        Checks.variable(x, 8, 0, Checks.TEXT, Checks.TEXT, Checks.TEXT);
        dueAll(x, 2, 3, 0, 0, 0, 0);
        Checks.dueCall(x, 2, 8, 0, Checks.TEXT, Checks.TEXT);
        dueAll(x, 2, 3, 1, 1, 0, 3);
        Checks.dueCall(x, 1, 8, 0, Checks.BOXED_INT, Checks.BOXED_INT);
        dueAll(x, 2, 3, 2, 2, 0, 2);
        Checks.dueCall(x, 0, 8, 0, Checks.TEXT);
        dueAll(x, 2, 3, 3, 3, 0, 1);
        Checks.dueCall(x, Checks.UNFIT, 8, 0);
        dueAll(x, 2, 3, 4, 4, 0, 0);
        Checks.dueCall(x, 2, 8, 0, Checks.TEXT, Checks.TEXT);
        dueAll(x, 2, 3, 4, 4, 1, 0);
        Checks.fixed(x, 9, 0);
        dueAll(x, 2, 4, 0, 4, 1, 0);
        Checks.dueCall(x, 2, 8, 0, Checks.TEXT, Checks.TEXT);
        dueAll(x, 2, 4, 1, 5, 1, 3);
        x.join(8, 9);
        dueAll(x, 2, 4, 0, 5, 1, 3);
        for (int what : new int[] {-1, 6, 7, Integer.MIN_VALUE, Integer.MAX_VALUE}) {
            Checks.dueCount(x, -1, what);
        }
        Checks.end();
    }

    private static void dueAll(MemberChooser x, int... want) {
        for (int what = 0; what < want.length; what++) {
            Checks.dueCount(x, want[what], what);
        }
    }
}
