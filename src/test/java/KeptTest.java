/** Promises 8 and 11: which calls are kept, for how long, and how they are counted. */
public final class KeptTest {
    public static void main(String[] args) {
        whatMakesCallsTheSame();
        whatThrowsIsKeptToo();
        theHundredAndFirst();
        orderBehindLettingGo();
        Checks.end();
    }

    private static void dueCounts(MemberChooser x, int kept, int workedOut, int found) {
        Checks.dueCount(x, kept, 2);
        Checks.dueCount(x, workedOut, 3);
        Checks.dueCount(x, found, 4);
    }

    private static void whatMakesCallsTheSame() {
        MemberChooser x = new MemberChooser();
        x.type(-1);
        x.type(8);
        Checks.variable(x, 8, 0, Checks.ANY);
        Checks.variable(x, 8, 1, Checks.ANY);
        Checks.dueCall(x, 0, 8, 0, Checks.TEXT);
        Checks.due(0, "call(8, 0, 1, .. more bytes)", () -> x.call(8, 0, 1, 0x7F06L));
        dueCounts(x, 1, 1, 1);
        Checks.dueCall(x, 0, 9, 0, Checks.TEXT);
        Checks.dueCall(x, 1, 8, 1, Checks.TEXT);
        Checks.dueCall(x, 0, 8, 0, Checks.TEXT, Checks.TEXT);
        Checks.dueCall(x, 0, 8, 0, Checks.NULL);
        Checks.dueCall(x, 0, 8, 0, Checks.TEXT, Checks.ANY);
        Checks.dueCall(x, 0, 8, 0, Checks.ANY, Checks.TEXT);
        dueCounts(x, 7, 7, 1);
        Checks.dueCall(x, 0, 8, 0);
        Checks.due(0, "call(8, 0, 0, -1)", () -> x.call(8, 0, 0, -1L));
        dueCounts(x, 8, 8, 2);
    }

    private static void whatThrowsIsKeptToo() {
        MemberChooser x = new MemberChooser();
        x.type(-1);
        Checks.fixed(x, 8, 0, Checks.TEXT);
        Checks.fixed(x, 8, 0, 8);
        Checks.variable(x, 8, 1, Checks.TEXT);
        Checks.dueCall(x, Checks.AMBIGUOUS, 8, 0, Checks.NULL);
        dueCounts(x, 1, 1, 0);
        Checks.dueCall(x, Checks.AMBIGUOUS, 8, 0, Checks.NULL);
        dueCounts(x, 1, 1, 1);
        Checks.dueCall(x, Checks.UNFIT, 8, 0);
        Checks.dueCall(x, Checks.UNFIT, 8, 0);
        dueCounts(x, 2, 2, 2);
        Checks.dueCount(x, 0, 5);
        Checks.dueCall(x, 2, 8, 1);
        Checks.dueCount(x, 3, 5);
        // A call that was kept already is not worked out, so the phase stays the other one's.
        Checks.dueCall(x, Checks.AMBIGUOUS, 8, 0, Checks.NULL);
        Checks.dueCall(x, Checks.UNFIT, 8, 0);
        Checks.dueCount(x, 3, 5);
        Checks.dueCall(x, Checks.IAE, 8, 10);
        Checks.dueCount(x, 3, 5);
        dueCounts(x, 3, 3, 4);
        Checks.fixed(x, 8, 1);
        Checks.dueCount(x, 3, 5);
    }

    /** Calls at 8 by name 0 that differ: two values of ten kinds each make a hundred. */
    private static void dueKind(MemberChooser x, int kind) {
        Checks.dueCall(x, 0, 8, 0, 3 + kind / 10 % 10, 3 + kind % 10, 3 + kind / 100);
    }

    private static MemberChooser withTenKinds() {
        MemberChooser x = new MemberChooser();
        for (int i = 0; i < 10; i++) {
            x.type(-1);
        }
        Checks.variable(x, 8, 0, Checks.ANY);
        return x;
    }

    private static void theHundredAndFirst() {
        MemberChooser x = withTenKinds();
        for (int kind = 0; kind < 100; kind++) {
            dueKind(x, kind);
        }
        dueCounts(x, 100, 100, 0);
        // Coming again does not make the first one be kept for longer.
        dueKind(x, 0);
        dueCounts(x, 100, 100, 1);
        dueKind(x, 100);
        dueCounts(x, 100, 101, 1);
        dueKind(x, 1);
        dueKind(x, 99);
        dueKind(x, 100);
        dueCounts(x, 100, 101, 4);
        dueKind(x, 0);
        dueCounts(x, 100, 102, 4);
        dueKind(x, 1);
        dueCounts(x, 100, 103, 4);
        dueKind(x, 3);
        dueCounts(x, 100, 103, 5);
        for (int kind = 3; kind <= 100; kind++) {
            dueKind(x, kind);
        }
        dueCounts(x, 100, 103, 103);
        dueKind(x, 2);
        dueCounts(x, 100, 104, 103);
    }

    /** Letting go those of one name leaves the others in the order in which they were kept. */
    private static void orderBehindLettingGo() {
        MemberChooser x = withTenKinds();
        Checks.dueCall(x, Checks.UNFIT, 9, 1);
        dueKind(x, 0);
        Checks.dueCall(x, Checks.UNFIT, 9, 1, Checks.TEXT);
        for (int kind = 1; kind < 98; kind++) {
            dueKind(x, kind);
        }
        dueCounts(x, 100, 100, 0);
        Checks.fixed(x, 9, 1);
        dueCounts(x, 98, 100, 0);
        dueKind(x, 98);
        dueKind(x, 99);
        dueCounts(x, 100, 102, 0);
        dueKind(x, 0);
        dueCounts(x, 100, 102, 1);
        dueKind(x, 100);
        dueKind(x, 1);
        dueCounts(x, 100, 103, 2);
        dueKind(x, 0);
        dueCounts(x, 100, 104, 2);
        dueKind(x, 2);
        dueCounts(x, 100, 104, 3);
        Checks.dueCall(x, 1, 9, 1);
    }
}
