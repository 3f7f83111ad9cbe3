/** Promise 5: member. */
public final class MemberTest {
    public static void main(String[] args) {
        numbersAndParameters();
        wrongOnes();
        sameParameters();
        eightyMembers();
        memberLetsGoItsName();
        Checks.end();
    }

    private static void numbersAndParameters() {
        MemberChooser x = new MemberChooser();
        x.type(-1);
        x.face();
        Checks.dueMember(x, 0, 8, 0, 0, 0L, false);
        Checks.dueMember(x, 1, 8, 9, 4, Checks.row(0, 9, 7, 2), true);
        Checks.dueMember(x, 2, 9, 0, 1, Checks.row(8, 200, 200, 200, 200, 200, 200, 200), false);
        Checks.dueMember(x, 3, 8, 1, 0, -1L, false);
        Checks.due(2, "look(1, 7)", () -> x.look(1, 7));
        Checks.due(8, "look(2, 4)", () -> x.look(2, 4));
        Checks.dueCount(x, 4, 1);
    }

    private static void wrongOnes() {
        MemberChooser x = new MemberChooser();
        x.type(-1);
        for (int none : new int[] {-1, 0, 2, 3, 6, 7, 9, 264, Integer.MIN_VALUE,
                Integer.MAX_VALUE}) {
            Checks.dueMember(x, Checks.IAE, none, 0, 0, 0L, false);
        }
        for (int none : new int[] {-1, 10, Integer.MIN_VALUE, Integer.MAX_VALUE}) {
            Checks.dueMember(x, Checks.IAE, 8, none, 0, 0L, false);
        }
        for (int none : new int[] {-1, 5, 8, 64, Integer.MIN_VALUE, Integer.MAX_VALUE}) {
            Checks.dueMember(x, Checks.IAE, 8, 0, none, 0L, false);
            Checks.dueMember(x, Checks.IAE, 8, 0, none, 0L, true);
        }
        for (int none : new int[] {9, 31, 32, 40, 127, 128, 255}) {
            Checks.dueMember(x, Checks.IAE, 8, 0, 1, Checks.row(none), false);
            Checks.dueMember(x, Checks.IAE, 8, 0, 4, Checks.row(0, 1, 2, none), true);
        }
        Checks.dueMember(x, Checks.IAE, 8, 0, 0, 0L, true);
        Checks.dueCount(x, 0, 1);
    }

    private static void sameParameters() {
        MemberChooser x = new MemberChooser();
        x.type(-1);
        x.type(8);
        Checks.dueMember(x, 0, 8, 0, 2, Checks.row(3, 0), false);
        Checks.dueMember(x, Checks.ISE, 8, 0, 2, Checks.row(3, 0), false);
        Checks.dueMember(x, Checks.ISE, 8, 0, 2, Checks.row(3, 0), true);
        Checks.dueMember(x, Checks.ISE, 8, 0, 2, Checks.row(3, 0, 77), false);
        Checks.dueMember(x, 1, 8, 0, 1, Checks.row(3), true);
        Checks.dueMember(x, Checks.ISE, 8, 0, 1, Checks.row(3), false);
        Checks.dueMember(x, 2, 8, 0, 3, Checks.row(3, 0, 0), false);
        Checks.dueMember(x, 3, 8, 0, 2, Checks.row(0, 3), false);
        Checks.dueMember(x, 4, 8, 1, 2, Checks.row(3, 0), false);
        Checks.dueMember(x, 5, 9, 0, 2, Checks.row(3, 0), false);
        Checks.dueMember(x, 6, 8, 0, 0, 0L, false);
        Checks.dueMember(x, Checks.ISE, 8, 0, 0, 5L, false);
        Checks.dueCount(x, 7, 1);
    }

    private static void eightyMembers() {
        MemberChooser x = new MemberChooser();
        x.type(-1);
        for (int want = 0; want < 80; want++) {
            Checks.dueMember(x, want, 8, want / 8, 1, want % 8, want % 2 == 0);
        }
        Checks.dueMember(x, Checks.ISE, 8, 0, 0, 0L, false);
        Checks.dueMember(x, Checks.ISE, 8, 0, 1, 0L, false);
        Checks.dueMember(x, Checks.IAE, 9, 0, 0, 0L, false);
        Checks.dueMember(x, Checks.IAE, 8, 0, 0, 0L, true);
        Checks.dueCount(x, 80, 1);
        Checks.due(9, "look(79, 1)", () -> x.look(79, 1));
        Checks.due(-1, "look(80, 1)", () -> x.look(80, 1));
    }

    private static void memberLetsGoItsName() {
        MemberChooser x = new MemberChooser();
        x.type(-1);
        x.type(-1);
        Checks.dueCall(x, Checks.UNFIT, 8, 0);
        Checks.dueCall(x, Checks.UNFIT, 8, 1);
        Checks.dueCall(x, Checks.UNFIT, 9, 0);
        Checks.dueCall(x, Checks.UNFIT, 9, 1, Checks.TEXT);
        Checks.dueCount(x, 4, 2);
        Checks.dueMember(x, 0, 9, 0, 1, Checks.row(0), true);
        Checks.dueCount(x, 2, 2);
        Checks.dueMember(x, Checks.ISE, 9, 0, 1, Checks.row(0), true);
        Checks.dueMember(x, Checks.IAE, 9, 1, 5, 0L, false);
        Checks.dueCount(x, 2, 2);
        Checks.dueCall(x, Checks.UNFIT, 8, 1);
        Checks.dueCall(x, Checks.UNFIT, 9, 1, Checks.TEXT);
        Checks.dueCount(x, 2, 4);
        Checks.dueCall(x, 0, 9, 0);
        Checks.dueCall(x, Checks.UNFIT, 8, 0);
        Checks.dueCount(x, 6, 3);
        // Now those of the name stand at the end.
        Checks.dueMember(x, 1, 8, 0, 1, Checks.row(0), true);
        Checks.dueCount(x, 2, 2);
        Checks.dueCall(x, Checks.UNFIT, 8, 1);
        Checks.dueCall(x, Checks.UNFIT, 9, 1, Checks.TEXT);
        Checks.dueCount(x, 4, 4);
    }
}
