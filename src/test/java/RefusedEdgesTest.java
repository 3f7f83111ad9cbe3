import java.util.function.Consumer;
import java.util.function.Supplier;

/**
 * "What throws changes nothing, but that a call that is AMBIGUOUS or UNFIT is kept, and counted."
 * "Of several exceptions the one told first is thrown."
 */
public final class RefusedEdgesTest {
    public static void main(String[] args) {
        whatThrowsChangesNothing();
        whatIsFalseChangesNothing();
        butThatACallIsKept();
        ofSeveralExceptions();
        Checks.end();
    }

    /** A class, one below it, and two faces, with room left for more of all. */
    private static MemberChooser small() {
        MemberChooser x = Made.classChain(2);
        x.face();
        x.face();
        x.join(8, 10);
        x.join(10, 11);
        Checks.fixed(x, 8, 0, Checks.TEXT);
        Checks.variable(x, 10, 0, Checks.INT);
        Checks.fixed(x, 9, 9);
        makeCalls(x, smallCalls());
        return x;
    }

    private static int[][] smallCalls() {
        return new int[][] {{9, 0, 1, 6}, {8, 0, 0, 0}, {11, 5, 1, 3}, {9, 9, 0, 0}};
    }

    /** Twelve classes in a chain, twelve faces above the first, 80 members, 100 calls kept. */
    private static MemberChooser full() {
        MemberChooser x = Made.classChain(12);
        for (int face = 20; face <= 31; face++) {
            x.face();
            x.join(8, face);
        }
        for (int i = 0; i < 80; i++) {
            Checks.fixed(x, 8 + i % 24, i / 8, i % 8);
        }
        makeCalls(x, fullCalls());
        return x;
    }

    private static int[][] fullCalls() {
        int[][] calls = new int[100][];
        for (int i = 0; i < 100; i++) {
            calls[i] = new int[] {19, i / 10, 1, 3 + i % 10};
        }
        return calls;
    }

    private static void makeCalls(MemberChooser x, int[][] calls) {
        for (int[] call : calls) {
            Checks.answerOf(() -> x.call(call[0], call[1], call[2], call[3]));
        }
    }

    private static void dueNoChange(Supplier<MemberChooser> made, int[][] calls, String want,
            Consumer<MemberChooser> refused) {
        Supplier<MemberChooser> behind = () -> {
            MemberChooser x = made.get();
            Checks.due(want, "what is refused", () -> {
                refused.accept(x);
                return "nothing thrown";
            });
            return x;
        };
        Snapshot.dueSame(Snapshot.ofTold(made), Snapshot.ofTold(behind));
        Snapshot.dueSame(Snapshot.ofKept(made, calls), Snapshot.ofKept(behind, calls));
    }

    private static void dueNoChangeToBoth(String want, Consumer<MemberChooser> refused) {
        dueNoChange(RefusedEdgesTest::small, smallCalls(), want, refused);
        dueNoChange(RefusedEdgesTest::full, fullCalls(), want, refused);
    }

    private static void throwsAndChangesNothing(String which, String want,
            Consumer<MemberChooser> refused) {
        Checks.sentence("What throws changes nothing: " + which,
                () -> dueNoChangeToBoth(want, refused));
    }

    private static void fullThrowsAndChangesNothing(String which, Consumer<MemberChooser> refused) {
        Checks.sentence("What throws changes nothing: " + which,
                () -> dueNoChange(RefusedEdgesTest::full, fullCalls(), Checks.ISE, refused));
    }

    private static void whatThrowsChangesNothing() {
        String iae = Checks.IAE;
        throwsAndChangesNothing("type, no class", iae, x -> x.type(32));
        throwsAndChangesNothing("type, a face", iae, x -> x.type(x.count(0) == 24 ? 31 : 10));
        fullThrowsAndChangesNothing("type, there are 24", x -> x.type(8));
        fullThrowsAndChangesNothing("face, there are 24", MemberChooser::face);
        throwsAndChangesNothing("member, no owner", iae, x -> x.member(7, 0, 0, 0L, false));
        throwsAndChangesNothing("member, no name", iae, x -> x.member(8, 10, 0, 0L, false));
        throwsAndChangesNothing("member, no n", iae, x -> x.member(8, 0, 5, 0L, false));
        throwsAndChangesNothing("member, no type", iae, x -> x.member(8, 0, 2, 0xFF00L, false));
        throwsAndChangesNothing("member, variable with n 0", iae,
                x -> x.member(8, 0, 0, 0L, true));
        Checks.sentence("What throws changes nothing: member, the same parameters",
                () -> dueNoChange(RefusedEdgesTest::small, smallCalls(), Checks.ISE,
                        x -> x.member(8, 0, 1, Checks.TEXT, true)));
        fullThrowsAndChangesNothing("member, there are 80", x -> x.member(8, 0, 2, 0L, false));
        throwsAndChangesNothing("call, no type", iae, x -> x.call(7, 0, 0, 0L));
        throwsAndChangesNothing("call, no name", iae, x -> x.call(8, -1, 0, 0L));
        throwsAndChangesNothing("call, no n", iae, x -> x.call(8, 0, 7, -1L));
        throwsAndChangesNothing("call, no class", iae, x -> x.call(8, 0, 1, 2L));
    }

    /** Not thrown, but refused all the same: no face is told above a type. */
    private static void whatIsFalseChangesNothing() {
        int[][] refused = {{8, 32}, {7, 10}, {8, 9}, {10, 10}, {8, 8}};
        Checks.sentence("join: false if there are no such ones, ..", () -> {
            for (int[] pair : refused) {
                dueNoChangeToBoth("nothing thrown", x -> dueFalse(x, pair[0], pair[1]));
            }
        });
        Checks.sentence("join: .. it has that already just so, or that .. has it above it", () -> {
            for (int[] pair : new int[][] {{8, 10}, {10, 11}, {11, 10}}) {
                dueNoChange(RefusedEdgesTest::small, smallCalls(), "nothing thrown",
                        x -> dueFalse(x, pair[0], pair[1]));
            }
            dueNoChange(RefusedEdgesTest::full, fullCalls(), "nothing thrown",
                    x -> dueFalse(x, 8, 31));
        });
    }

    private static void dueFalse(MemberChooser x, int type, int face) {
        Checks.dueJoin(x, false, type, face);
    }

    private static void butThatACallIsKept() {
        Checks.sentence("but that a call that is AMBIGUOUS .. is kept, and counted",
                () -> throwsButIsKept(Checks.AMBIGUOUS, Checks.NULL));
        Checks.sentence("but that a call that is .. UNFIT is kept, and counted",
                () -> throwsButIsKept(Checks.UNFIT, Checks.BOXED_BOOL));
        Checks.sentence("is kept: and lets the one go that was kept first",
                RefusedEdgesTest::unfitIsTheHundredAndFirst);
    }

    private static MemberChooser withTwo() {
        MemberChooser x = small();
        Checks.fixed(x, 8, 0, 8);
        return x;
    }

    private static void throwsButIsKept(String want, int value) {
        MemberChooser x = withTwo();
        // The member of name 0 let two of the four go.
        dueFirst(x, 4, 4, 2, 4, 0);
        Checks.dueCall(x, want, 8, 0, value);
        dueFirst(x, 4, 4, 3, 5, 0);
        Checks.dueCall(x, want, 8, 0, value);
        dueFirst(x, 4, 4, 3, 5, 1);
        Supplier<MemberChooser> behind = () -> {
            MemberChooser y = withTwo();
            Checks.dueCall(y, want, 8, 0, value);
            return y;
        };
        Snapshot.dueSame(Snapshot.ofTold(RefusedEdgesTest::withTwo), Snapshot.ofTold(behind));
    }

    private static void dueFirst(MemberChooser x, int... counts) {
        for (int what = 0; what < counts.length; what++) {
            Checks.dueCount(x, counts[what], what);
        }
    }

    private static void unfitIsTheHundredAndFirst() {
        MemberChooser x = full();
        Checks.dueCall(x, Checks.UNFIT, 8, 0, Checks.TEXT, Checks.TEXT);
        dueFirst(x, 24, 80, 100, 101, 0);
        // The second one is there yet, the first one is not.
        makeCalls(x, new int[][] {fullCalls()[1]});
        dueFirst(x, 24, 80, 100, 101, 1);
        makeCalls(x, new int[][] {fullCalls()[0]});
        dueFirst(x, 24, 80, 100, 102, 1);
    }

    private static void ofSeveralExceptions() {
        Checks.sentence("Of several exceptions the one told first is thrown: type",
                RefusedEdgesTest::typeNoneAndFull);
        Checks.sentence("Of several exceptions the one told first is thrown: member, full",
                RefusedEdgesTest::memberWrongAndFull);
        Checks.sentence("Of several exceptions the one told first is thrown: member, the same",
                RefusedEdgesTest::memberWrongAndTheSame);
        Checks.sentence("Of several exceptions the one told first is thrown: call",
                RefusedEdgesTest::callWrongAndUnfit);
    }

    private static void typeNoneAndFull() {
        MemberChooser x = full();
        for (int none : new int[] {-2, 0, 7, 20, 31, 32, Integer.MIN_VALUE, Integer.MAX_VALUE}) {
            Checks.dueType(x, Checks.IAE, none);
        }
        Checks.dueType(x, Checks.ISE, -1);
        Checks.dueType(x, Checks.ISE, 19);
    }

    private static void memberWrongAndFull() {
        MemberChooser x = full();
        Checks.dueMember(x, Checks.IAE, 32, 0, 0, 0L, false);
        Checks.dueMember(x, Checks.IAE, 7, 0, 0, 0L, false);
        Checks.dueMember(x, Checks.IAE, 8, -1, 0, 0L, false);
        Checks.dueMember(x, Checks.IAE, 8, 10, 0, 0L, false);
        Checks.dueMember(x, Checks.IAE, 8, 0, -1, 0L, false);
        Checks.dueMember(x, Checks.IAE, 8, 0, 5, 0L, false);
        Checks.dueMember(x, Checks.IAE, 8, 0, 1, 32L, false);
        Checks.dueMember(x, Checks.IAE, 8, 0, 4, Checks.row(0, 0, 0, 255), false);
        Checks.dueMember(x, Checks.IAE, 8, 0, 0, 0L, true);
        Checks.dueMember(x, Checks.ISE, 8, 0, 4, 0L, true);
    }

    private static void memberWrongAndTheSame() {
        MemberChooser x = Made.withClass();
        Checks.fixed(x, 8, 0);
        Checks.dueMember(x, Checks.ISE, 8, 0, 0, 0L, false);
        // The same parameters, none, but told as variable.
        Checks.dueMember(x, Checks.IAE, 8, 0, 0, 0L, true);
        Checks.fixed(x, 8, 0, 0, 0, 0, 0);
        Checks.dueMember(x, Checks.ISE, 8, 0, 4, 0L, false);
        Checks.dueMember(x, Checks.IAE, 8, 0, 5, 0L, false);
    }

    private static void callWrongAndUnfit() {
        MemberChooser x = Made.withClass();
        // By any name no call fits.
        Checks.dueCall(x, Checks.UNFIT, 8, 0);
        Checks.dueCall(x, Checks.IAE, 9, 0);
        Checks.dueCall(x, Checks.IAE, 8, 10);
        Checks.dueCall(x, Checks.IAE, 8, 0, Checks.INT);
        Checks.due(Checks.IAE, "call(8, 0, 7, -1)", () -> x.call(8, 0, 7, -1L));
        // With a right value for the first, by itself AMBIGUOUS.
        Checks.fixed(x, 8, 1, 8, Checks.ANY);
        Checks.fixed(x, 8, 1, Checks.ANY, 8);
        Checks.dueCall(x, Checks.AMBIGUOUS, 8, 1, 8, 8);
        Checks.dueCall(x, Checks.IAE, 8, 1, 8, Checks.BOOL);
        Checks.dueCall(x, Checks.IAE, 7, 1, 8, 8);
        Checks.dueCount(x, 2, 3);
    }
}
