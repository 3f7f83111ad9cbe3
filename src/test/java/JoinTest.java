/** Promise 4: join. */
public final class JoinTest {
    public static void main(String[] args) {
        truths();
        wrongOnes();
        faceAboveAlreadyByAnotherWay();
        allFacesAboveOne();
        joinLetsGoAllKept();
        Checks.end();
    }

    private static void truths() {
        MemberChooser x = new MemberChooser();
        x.type(-1);
        x.face();
        x.face();
        x.face();
        Checks.dueJoin(x, true, 8, 9);
        Checks.dueJoin(x, false, 8, 9);
        Checks.dueJoin(x, true, 9, 10);
        Checks.dueJoin(x, true, 10, 11);
        Checks.dueJoin(x, false, 10, 10);
        Checks.dueJoin(x, false, 10, 9);
        Checks.dueJoin(x, false, 11, 9);
        Checks.dueJoin(x, false, 11, 10);
        Checks.dueJoin(x, false, 9, 8);
        Checks.due(true, "subtype(8, 11)", () -> x.subtype(8, 11));
        Checks.due(false, "subtype(11, 8)", () -> x.subtype(11, 8));
        Checks.due(1, "above(8, 2)", () -> x.above(8, 2));
        Checks.due(0, "above(11, 2)", () -> x.above(11, 2));
    }

    private static void wrongOnes() {
        MemberChooser x = new MemberChooser();
        x.type(-1);
        x.type(8);
        x.face();
        for (int none : new int[] {-1, -2, 0, 3, 7, 11, 32, 255, Integer.MIN_VALUE,
                Integer.MAX_VALUE}) {
            Checks.dueJoin(x, false, none, 10);
            Checks.dueJoin(x, false, 8, none);
        }
        Checks.dueJoin(x, false, 8, 8);
        Checks.dueJoin(x, false, 8, 9);
        Checks.dueJoin(x, false, 9, 8);
        Checks.dueJoin(x, false, 10, 8);
        Checks.due(0, "above(8, 2)", () -> x.above(8, 2));
    }

    /** Only a face told above a type just so is refused. */
    private static void faceAboveAlreadyByAnotherWay() {
        MemberChooser x = new MemberChooser();
        x.type(-1);
        x.type(8);
        x.face();
        x.face();
        Checks.dueJoin(x, true, 8, 10);
        Checks.dueJoin(x, true, 9, 10);
        Checks.dueJoin(x, true, 10, 11);
        Checks.dueJoin(x, true, 9, 11);
        Checks.dueJoin(x, false, 9, 11);
        Checks.due(2, "above(9, 2)", () -> x.above(9, 2));
    }

    private static void allFacesAboveOne() {
        MemberChooser x = new MemberChooser();
        x.type(-1);
        for (int face = 9; face <= 31; face++) {
            x.face();
            Checks.dueJoin(x, true, 8, face);
        }
        for (int face = 9; face <= 31; face++) {
            Checks.dueJoin(x, false, 8, face);
        }
        Checks.due(23, "above(8, 2)", () -> x.above(8, 2));
        Checks.due(25, "above(8, 3)", () -> x.above(8, 3));
    }

    private static void joinLetsGoAllKept() {
        MemberChooser x = new MemberChooser();
        x.type(-1);
        x.type(-1);
        x.face();
        Checks.fixed(x, 10, 0);
        Checks.dueCall(x, Checks.UNFIT, 8, 0);
        Checks.dueCall(x, Checks.UNFIT, 9, 5);
        x.join(9, 9);
        Checks.dueCount(x, 2, 2);
        x.join(8, 10);
        Checks.dueCount(x, 0, 2);
        Checks.dueCall(x, 0, 8, 0);
        Checks.dueCount(x, 3, 3);
        x.join(8, 10);
        Checks.dueCount(x, 1, 2);
    }
}
