/** Promise 2: type. */
public final class TypeTest {
    public static void main(String[] args) {
        MemberChooser x = new MemberChooser();
        Checks.due(8, "type(-1)", () -> x.type(-1));
        Checks.due(9, "type(8)", () -> x.type(8));
        Checks.due(10, "face()", x::face);
        Checks.due(8, "above(9, 1)", () -> x.above(9, 1));
        Checks.due(0, "above(9, 0)", () -> x.above(9, 0));
        for (int none : new int[] {-2, 0, 1, 2, 3, 6, 7, 10, 11, 12, 40, 255, 264,
                Integer.MIN_VALUE, Integer.MAX_VALUE}) {
            Checks.due(Checks.IAE, "type(" + none + ")", () -> x.type(none));
        }
        Checks.dueCount(x, 3, 0);
        for (int want = 11; want <= 31; want++) {
            int above = want - 1 == 10 ? 9 : want - 1;
            Checks.due(want, "type(" + above + ")", () -> x.type(above));
        }
        Checks.due(Checks.ISE, "type(-1), the 25th", () -> x.type(-1));
        Checks.due(Checks.ISE, "type(31), the 25th", () -> x.type(31));
        Checks.due(Checks.IAE, "type(32), the 25th", () -> x.type(32));
        Checks.due(Checks.IAE, "type(10), the 25th", () -> x.type(10));
        Checks.dueCount(x, 24, 0);
        Checks.due(true, "subtype(31, 8)", () -> x.subtype(31, 8));
        Checks.due(false, "subtype(32, 7)", () -> x.subtype(32, 7));
        newClassLeavesKeptCallsAlone();
        Checks.end();
    }

    private static void newClassLeavesKeptCallsAlone() {
        MemberChooser x = new MemberChooser();
        x.type(-1);
        Checks.dueCall(x, Checks.UNFIT, 8, 0);
        x.type(8);
        x.face();
        Checks.dueCount(x, 1, 2);
    }
}
