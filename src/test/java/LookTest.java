/** Promise 9: look. */
public final class LookTest {
    public static void main(String[] args) {
        MemberChooser x = new MemberChooser();
        x.type(-1);
        x.face();
        Checks.fixed(x, 9, 3);
        Checks.variable(x, 8, 9, 9, 0, 8, 7);
        Checks.fixed(x, 8, 0, 2, 3);
        dueAll(x, 0, 9, 3, 0, 0);
        dueAll(x, 1, 8, 9, 4, 1, 9, 0, 8, 7);
        dueAll(x, 2, 8, 0, 2, 0, 2, 3);
        for (int none : new int[] {-1, 3, 80, Integer.MIN_VALUE, Integer.MAX_VALUE}) {
            for (int what = 0; what < 9; what++) {
                Checks.dueLook(x, -1, none, what);
            }
        }
        for (int what : new int[] {-1, -4, Integer.MIN_VALUE, Integer.MAX_VALUE}) {
            Checks.dueLook(x, -1, 1, what);
        }
        Checks.end();
    }

    private static void dueAll(MemberChooser x, int member, int... want) {
        for (int what = 0; what < 12; what++) {
            Checks.dueLook(x, what < want.length ? want[what] : -1, member, what);
        }
    }
}
