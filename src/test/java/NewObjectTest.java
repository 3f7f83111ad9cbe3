/** Promise 1: no classes, no members, nothing kept; and objects share nothing. */
public final class NewObjectTest {
    public static void main(String[] args) {
        Checks.due(-1, "NONE", () -> MemberChooser.NONE);
        dueNew(new MemberChooser());

        MemberChooser used = new MemberChooser();
        used.type(MemberChooser.NONE);
        Checks.fixed(used, 8, 0);
        used.call(8, 0, 0, 0L);
        used.call(8, 0, 0, 0L);
        dueNew(new MemberChooser());
        Checks.end();
    }

    private static void dueNew(MemberChooser x) {
        for (int what = 0; what <= 5; what++) {
            Checks.dueCount(x, 0, what);
        }
        Checks.due(-1, "look(0, 0)", () -> x.look(0, 0));
        Checks.due(-1, "above(8, 0)", () -> x.above(8, 0));
        Checks.due(false, "subtype(8, 8)", () -> x.subtype(8, 8));
        Checks.due(-1, "meant(8, 0, 0)", () -> x.meant(8, 0, 0));
        Checks.dueCall(x, Checks.IAE, 8, 0);
        Checks.due(true, "subtype(7, 7)", () -> x.subtype(7, 7));
    }
}
