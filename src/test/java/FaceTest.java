/** Promise 3: face. */
public final class FaceTest {
    public static void main(String[] args) {
        MemberChooser x = new MemberChooser();
        for (int want = 8; want <= 31; want++) {
            Checks.due(want, "face()", x::face);
        }
        Checks.due(Checks.ISE, "face(), the 25th", x::face);
        Checks.due(Checks.ISE, "type(-1), the 25th", () -> x.type(-1));
        Checks.dueCount(x, 24, 0);
        Checks.due(1, "above(31, 0)", () -> x.above(31, 0));
        Checks.due(-1, "above(31, 1)", () -> x.above(31, 1));
        Checks.due(-1, "above(32, 0)", () -> x.above(32, 0));

        MemberChooser mixed = new MemberChooser();
        for (int i = 0; i < 12; i++) {
            mixed.type(-1);
            mixed.face();
        }
        Checks.due(Checks.ISE, "face(), behind 12 of both", mixed::face);
        Checks.end();
    }
}
