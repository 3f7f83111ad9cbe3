/** Promise 6: subtype. */
public final class SubtypeTest {
    public static void main(String[] args) {
        builtIn();
        told();
        joinedLate();
        Checks.end();
    }

    private static void builtIn() {
        MemberChooser x = new MemberChooser();
        for (int type = 0; type < 8; type++) {
            for (int of = 0; of < 8; of++) {
                boolean want = type == of || (of == Checks.ANY && type > Checks.BOOL)
                        || (type == Checks.INT && of == Checks.LONG);
                Checks.dueSubtype(x, want, type, of);
            }
        }
        for (int none : new int[] {-1, 8, 31, 32, 39, 255, Integer.MIN_VALUE,
                Integer.MAX_VALUE}) {
            Checks.dueSubtype(x, false, none, none);
            Checks.dueSubtype(x, false, none, Checks.ANY);
            Checks.dueSubtype(x, false, Checks.ANY, none);
        }
    }

    /** 8; 9 below 8; 10 below 9; faces 11, 12 above 11, 13; 11 above 8 and 13 above 10. */
    private static void told() {
        MemberChooser x = new MemberChooser();
        x.type(-1);
        x.type(8);
        x.type(9);
        x.face();
        x.face();
        x.face();
        x.join(11, 12);
        x.join(8, 11);
        x.join(10, 13);
        String[] above = {"8 7 11 12", "9 8 7 11 12", "10 9 8 7 11 12 13", "11 12 7", "12 7",
            "13 7"};
        for (int type = 8; type <= 13; type++) {
            for (int of = 0; of <= 14; of++) {
                boolean want = (" " + above[type - 8] + " ").contains(" " + of + " ");
                Checks.dueSubtype(x, want, type, of);
            }
            Checks.dueSubtype(x, false, Checks.ANY, type);
            Checks.dueSubtype(x, false, Checks.TEXT, type);
        }
    }

    /** What comes above a face late comes above all below it. */
    private static void joinedLate() {
        MemberChooser x = new MemberChooser();
        x.face();
        x.face();
        x.type(-1);
        x.type(10);
        x.face();
        x.join(10, 8);
        x.join(8, 9);
        x.join(9, 12);
        Checks.dueSubtype(x, true, 11, 9);
        Checks.dueSubtype(x, true, 11, 12);
        Checks.dueSubtype(x, true, 10, 12);
        Checks.dueSubtype(x, true, 8, 12);
        Checks.dueSubtype(x, false, 12, 8);
        Checks.due(6, "above(11, 3)", () -> x.above(11, 3));

        MemberChooser full = new MemberChooser();
        full.face();
        for (int type = 9; type <= 31; type++) {
            full.face();
            full.join(type - 1, type);
        }
        Checks.dueSubtype(full, true, 8, 31);
        Checks.dueSubtype(full, false, 31, 8);
        Checks.dueSubtype(full, true, 31, Checks.ANY);
        Checks.dueSubtype(full, false, 31, 0);
    }
}
