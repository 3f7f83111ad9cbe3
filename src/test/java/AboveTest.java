/** Promise 10: above. */
public final class AboveTest {
    public static void main(String[] args) {
        MemberChooser x = new MemberChooser();
        x.type(-1);
        x.type(8);
        x.face();
        x.face();
        x.join(10, 11);
        dueAll(x, 8, 0, -1, 0, 2);
        dueAll(x, 9, 0, 8, 0, 3);
        dueAll(x, 10, 1, -1, 1, 3);
        dueAll(x, 11, 1, -1, 0, 2);
        x.join(8, 10);
        dueAll(x, 8, 0, -1, 1, 4);
        dueAll(x, 9, 0, 8, 0, 5);
        // A face above by two ways is one type, but told above just so.
        x.join(9, 11);
        x.join(9, 10);
        dueAll(x, 9, 0, 8, 2, 5);
        x.type(9);
        dueAll(x, 12, 0, 9, 0, 6);
        for (int none : new int[] {-1, 0, 3, 7, 13, 32, Integer.MIN_VALUE, Integer.MAX_VALUE}) {
            dueAll(x, none, -1, -1, -1, -1);
        }
        for (int what : new int[] {-1, Integer.MIN_VALUE, Integer.MAX_VALUE}) {
            Checks.dueAbove(x, -1, 10, what);
        }
        allAboveOne();
        Checks.end();
    }

    private static void allAboveOne() {
        MemberChooser x = new MemberChooser();
        x.type(-1);
        for (int type = 9; type <= 31; type++) {
            x.type(type - 1);
        }
        dueAll(x, 31, 0, 30, 0, 25);
    }

    private static void dueAll(MemberChooser x, int type, int... want) {
        for (int what = 0; what < 6; what++) {
            Checks.dueAbove(x, what < want.length ? want[what] : -1, type, what);
        }
    }
}
