/** Each sentence on members that names an edge: Terms, promises 5 and 9. */
public final class MemberEdgesTest {
    /** No owner in an object with one class and one face, 8 and 9. */
    private static final int[] NO_OWNERS = {-1, -2, -248, 0, 1, 2, 3, 4, 5, 6, 7, 10, 31, 32,
        255, 256, 264, Integer.MIN_VALUE, Integer.MIN_VALUE + 8, Integer.MAX_VALUE};
    private static final int[] NO_NAMES = {-1, -2, -9, 10, 11, 256, 265, Integer.MIN_VALUE,
        Integer.MAX_VALUE};
    private static final int[] NO_SIZES = {-1, -2, -4, 5, 6, 7, 8, 9, 32, 64, 65, 256, 260,
        Integer.MIN_VALUE, Integer.MIN_VALUE + 1, Integer.MAX_VALUE};

    public static void main(String[] args) {
        terms();
        promiseFive();
        promiseNine();
        Checks.end();
    }

    private static MemberChooser withClassAndFace() {
        MemberChooser x = Made.withClass();
        x.face();
        return x;
    }

    /** Eighty members of class 8: names 0 .. 9, each with one parameter, 0 .. 7. */
    private static MemberChooser withEighty() {
        MemberChooser x = withClassAndFace();
        for (int i = 0; i < 80; i++) {
            Checks.dueMember(x, i, 8, i / 8, 1, i % 8, i % 2 == 1);
        }
        return x;
    }

    private static void terms() {
        Checks.sentence("MEMBERS 0, 1, .. (80 at most)", MemberEdgesTest::eightyAtMost);
        Checks.sentence("have an OWNER (a class or face)", MemberEdgesTest::ownersOfBothKinds);
        Checks.sentence("a NAME 0 .. 9", MemberEdgesTest::tenNames);
        Checks.sentence("0 .. 4 PARAMETERS (types)", MemberEdgesTest::noneToFourParameters);
        Checks.sentence("of which the last one may be VARIABLE", MemberEdgesTest::lastVariable);
        Checks.sentence("(any number of such, none too)", MemberEdgesTest::anyNumberOfSuch);
        Checks.sentence("No two of one owner and name have the same parameters (VARIABLE or not).",
                MemberEdgesTest::noTwoTheSame);
    }

    private static void eightyAtMost() {
        MemberChooser x = withEighty();
        Checks.dueCount(x, 80, 1);
        Checks.dueMember(x, Checks.ISE, 8, 0, 0, 0L, false);
        Checks.dueMember(x, Checks.ISE, 9, 9, 1, 0L, false);
        Checks.dueCount(x, 80, 1);
        Checks.dueLook(x, 0, 0, 1);
        Checks.dueLook(x, 9, 79, 1);
        Checks.dueLook(x, 7, 79, 4);
        Checks.dueLook(x, -1, 80, 1);
        // The limit is that of all owners and names together.
        MemberChooser spread = Made.classes(24);
        for (int i = 0; i < 80; i++) {
            Checks.dueMember(spread, i, 8 + i % 24, i % 10, 0, 0L, false);
        }
        Checks.dueMember(spread, Checks.ISE, 31, 0, 1, 0L, false);
        Checks.dueCount(spread, 80, 1);
    }

    private static void ownersOfBothKinds() {
        MemberChooser x = Made.classes(12);
        for (int i = 0; i < 12; i++) {
            x.face();
        }
        for (int owner = 8; owner <= 31; owner++) {
            Checks.dueMember(x, owner - 8, owner, 0, 0, 0L, false);
            Checks.dueLook(x, owner, owner - 8, 0);
        }
    }

    private static void tenNames() {
        MemberChooser x = withClassAndFace();
        for (int name = 0; name <= 9; name++) {
            Checks.dueMember(x, name, 8, name, 0, 0L, false);
            Checks.dueLook(x, name, name, 1);
            Checks.dueMeant(x, 8, name, name);
        }
        Checks.dueMember(x, Checks.IAE, 8, -1, 0, 0L, false);
        Checks.dueMember(x, Checks.IAE, 8, 10, 0, 0L, false);
    }

    private static void noneToFourParameters() {
        MemberChooser x = Made.classes(12);
        for (int i = 0; i < 12; i++) {
            x.face();
        }
        for (int n = 0; n <= 4; n++) {
            Checks.dueMember(x, n, 8, 0, n, Checks.row(3, 3, 3, 3), false);
            Checks.dueLook(x, n, n, 2);
        }
        Checks.dueMember(x, Checks.IAE, 8, 0, -1, Checks.row(3), false);
        Checks.dueMember(x, Checks.IAE, 8, 0, 5, Checks.row(3, 3, 3, 3, 3), false);
        // Any type may be one, a class or a face too, in any place.
        for (int type = 0; type <= 31; type++) {
            int number = 5 + type;
            Checks.dueMember(x, number, 9, 0, 4, Checks.row(type, 0, 31, type), false);
            Checks.dueLook(x, type, number, 4);
            Checks.dueLook(x, 0, number, 5);
            Checks.dueLook(x, 31, number, 6);
            Checks.dueLook(x, type, number, 7);
        }
    }

    private static void lastVariable() {
        MemberChooser x = withClassAndFace();
        int text = Checks.TEXT;
        for (int n = 1; n <= 4; n++) {
            Checks.dueMember(x, n - 1, 8, n, n, Checks.row(text, text, text, text), true);
            Checks.dueLook(x, 1, n - 1, 3);
            Checks.dueLook(x, n, n - 1, 2);
        }
        // All but the last one must have their values.
        Checks.dueCall(x, 3, 8, 4, text, text, text);
        Checks.dueCall(x, Checks.UNFIT, 8, 4, text, text);
        Checks.dueMember(x, 4, 8, 0, 4, Checks.row(text, text, text, text), false);
        Checks.dueLook(x, 0, 4, 3);
        Checks.dueCall(x, Checks.UNFIT, 8, 0, text, text, text);
    }

    private static void anyNumberOfSuch() {
        MemberChooser x = withClassAndFace();
        Checks.variable(x, 8, 0, Checks.TEXT);
        Checks.variable(x, 8, 1, Checks.BOOL, Checks.BOOL, Checks.BOOL, Checks.LONG);
        for (int many = 0; many <= 6; many++) {
            int[] texts = new int[many];
            java.util.Arrays.fill(texts, Checks.TEXT);
            Checks.dueCall(x, 0, 8, 0, texts);
        }
        for (int many = 0; many <= 3; many++) {
            int[] values = new int[3 + many];
            java.util.Arrays.fill(values, Checks.BOXED_LONG);
            java.util.Arrays.fill(values, 0, 3, Checks.BOXED_BOOL);
            Checks.dueCall(x, 1, 8, 1, values);
        }
    }

    private static void noTwoTheSame() {
        for (int which = 0; which < 4; which++) {
            MemberChooser x = withClassAndFace();
            boolean first = which % 2 == 1;
            boolean second = which / 2 == 1;
            Checks.dueMember(x, 0, 8, 0, 2, Checks.row(6, 0), first);
            Checks.dueMember(x, Checks.ISE, 8, 0, 2, Checks.row(6, 0), second);
            Checks.dueCount(x, 1, 1);
            Checks.dueLook(x, first ? 1 : 0, 0, 3);
        }
        MemberChooser x = withClassAndFace();
        Checks.dueMember(x, 0, 8, 0, 0, 0L, false);
        Checks.dueMember(x, Checks.ISE, 8, 0, 0, 0L, false);
        // Another owner, name, number, order or type of parameters makes another one.
        Checks.dueMember(x, 1, 9, 0, 0, 0L, false);
        Checks.dueMember(x, 2, 8, 1, 0, 0L, false);
        Checks.dueMember(x, 3, 8, 0, 1, 0L, false);
        Checks.dueMember(x, 4, 8, 0, 2, 0L, false);
        Checks.dueMember(x, 5, 8, 0, 2, Checks.row(1, 0), false);
        Checks.dueMember(x, 6, 8, 0, 2, Checks.row(0, 1), false);
        Checks.dueMember(x, 7, 8, 0, 4, Checks.row(0, 0, 0, 0), false);
        Checks.dueMember(x, 8, 8, 0, 4, Checks.row(0, 0, 0, 9), true);
        Checks.dueCount(x, 9, 1);
    }

    private static void promiseFive() {
        Checks.sentence("A member: its number.", MemberEdgesTest::numbersGoUpByOne);
        Checks.sentence("member: the n lowest bytes of types, the first one the lowest",
                MemberEdgesTest::lowestBytes);
        Checks.sentence("member: IllegalArgumentException if there is no such owner",
                MemberEdgesTest::noOwner);
        Checks.sentence("member: IllegalArgumentException if there is no such name",
                MemberEdgesTest::noName);
        Checks.sentence("member: IllegalArgumentException if there is no such n",
                MemberEdgesTest::noSize);
        Checks.sentence("member: IllegalArgumentException if there is no such type",
                MemberEdgesTest::noType);
        Checks.sentence("member: or variable is told with n 0", MemberEdgesTest::noneVariable);
        Checks.sentence("member: IllegalStateException if there is one with the same parameters",
                MemberEdgesTest::sameParameters);
        Checks.sentence("member: or there are 80.", MemberEdgesTest::noEightyFirst);
    }

    private static void numbersGoUpByOne() {
        MemberChooser x = withClassAndFace();
        Checks.dueMember(x, 0, 9, 4, 0, 0L, false);
        // One that is refused takes no number.
        Checks.dueMember(x, Checks.ISE, 9, 4, 0, 0L, false);
        Checks.dueMember(x, Checks.IAE, 9, 4, 5, 0L, false);
        Checks.dueMember(x, 1, 8, 4, 0, 0L, false);
        for (int number = 2; number < 80; number++) {
            Checks.dueMember(x, number, 8, number / 8, 1, number % 8, false);
        }
    }

    private static void lowestBytes() {
        MemberChooser x = Made.classes(24);
        Checks.dueMember(x, 0, 8, 0, 4, 0x1F081E00L, false);
        Checks.dueLook(x, 0, 0, 4);
        Checks.dueLook(x, 30, 0, 5);
        Checks.dueLook(x, 8, 0, 6);
        Checks.dueLook(x, 31, 0, 7);
        // Bytes beyond are no parameters, be they types or not, up to the long's sign.
        for (int n = 0; n <= 4; n++) {
            long beyond = -1L << (8 * n);
            Checks.dueMember(x, 1 + n, 8, 1, n, beyond | Checks.row(6, 6, 6, 6), false);
            Checks.dueLook(x, n, 1 + n, 2);
            Checks.dueLook(x, n == 0 ? -1 : Checks.TEXT, 1 + n, 3 + Math.max(n, 1));
            Checks.dueLook(x, -1, 1 + n, 4 + n);
            Checks.dueMember(x, Checks.ISE, 8, 1, n, Checks.row(6, 6, 6, 6), false);
        }
        Checks.dueMember(x, 6, 8, 2, 1, Long.MIN_VALUE, false);
        Checks.dueLook(x, Checks.INT, 6, 4);
        Checks.dueMember(x, Checks.ISE, 8, 2, 1, Long.MAX_VALUE & ~255L, false);
    }

    private static void noOwner() {
        MemberChooser x = withClassAndFace();
        for (int none : NO_OWNERS) {
            Checks.dueMember(x, Checks.IAE, none, 0, 0, 0L, false);
            Checks.dueMember(x, Checks.IAE, none, 9, 4, 0L, true);
        }
        Checks.dueCount(x, 0, 1);
        Checks.dueMember(x, 0, 8, 0, 0, 0L, false);
        Checks.dueMember(x, 1, 9, 0, 0, 0L, false);
    }

    private static void noName() {
        MemberChooser x = withClassAndFace();
        for (int none : NO_NAMES) {
            Checks.dueMember(x, Checks.IAE, 8, none, 0, 0L, false);
            Checks.dueMember(x, Checks.IAE, 9, none, 1, 0L, true);
        }
        Checks.dueCount(x, 0, 1);
        Checks.dueMember(x, 0, 8, 0, 0, 0L, false);
        Checks.dueMember(x, 1, 8, 9, 0, 0L, false);
    }

    private static void noSize() {
        MemberChooser x = withClassAndFace();
        for (int none : NO_SIZES) {
            Checks.dueMember(x, Checks.IAE, 8, 0, none, 0L, false);
            Checks.dueMember(x, Checks.IAE, 8, 0, none, 0L, true);
        }
        Checks.dueCount(x, 0, 1);
        Checks.dueMember(x, 0, 8, 0, 0, 0L, false);
        Checks.dueMember(x, 1, 8, 0, 4, 0L, true);
    }

    private static void noType() {
        MemberChooser x = withClassAndFace();
        for (int none : new int[] {10, 11, 31, 32, 40, 127, 128, 136, 254, 255}) {
            for (int place = 0; place < 4; place++) {
                int[] row = {0, 8, 9, 7};
                row[place] = none;
                Checks.dueMember(x, Checks.IAE, 8, 0, 4, Checks.row(row), false);
                Checks.dueMember(x, Checks.IAE, 8, 0, place + 1, Checks.row(row), true);
            }
        }
        Checks.dueCount(x, 0, 1);
        // One place ahead of the wrong byte it is no matter.
        Checks.dueMember(x, 0, 8, 0, 3, Checks.row(0, 8, 9, 10), false);
        x.face();
        Checks.dueMember(x, 1, 8, 0, 4, Checks.row(0, 8, 9, 10), false);
    }

    private static void noneVariable() {
        MemberChooser x = withClassAndFace();
        for (long types : new long[] {0L, 6L, -1L, Long.MIN_VALUE}) {
            Checks.dueMember(x, Checks.IAE, 8, 0, 0, types, true);
            Checks.dueMember(x, Checks.IAE, 9, 9, 0, types, true);
        }
        Checks.dueCount(x, 0, 1);
        Checks.dueMember(x, 0, 8, 0, 0, 0L, false);
        Checks.dueMember(x, 1, 8, 0, 1, 0L, true);
    }

    private static void sameParameters() {
        MemberChooser x = withClassAndFace();
        for (int n = 0; n <= 4; n++) {
            Checks.dueMember(x, n, 9, 9, n, Checks.row(9, 8, 2, 0), n == 3);
        }
        for (int n = 0; n <= 4; n++) {
            Checks.dueMember(x, Checks.ISE, 9, 9, n, Checks.row(9, 8, 2, 0), false);
            if (n > 0) {
                Checks.dueMember(x, Checks.ISE, 9, 9, n, Checks.row(9, 8, 2, 0), true);
            }
        }
        Checks.dueCount(x, 5, 1);
        // Above or below another owner it is no matter.
        Checks.dueJoin(x, true, 8, 9);
        Checks.dueMember(x, 5, 8, 9, 4, Checks.row(9, 8, 2, 0), false);
    }

    private static void noEightyFirst() {
        MemberChooser x = withEighty();
        Checks.dueMember(x, Checks.ISE, 8, 5, 2, 0L, false);
        Checks.dueMember(x, Checks.ISE, 9, 0, 0, -1L, false);
        Checks.dueMember(x, Checks.ISE, 8, 0, 1, 0L, false);
        Checks.dueCount(x, 80, 1);
        Checks.dueLook(x, -1, 80, 0);
    }

    private static void promiseNine() {
        Checks.sentence("look: what 0: owner, 1: name, 2: how many parameters",
                MemberEdgesTest::lookAtLeastAndMost);
        Checks.sentence("look: 3: 1 if the last one is variable", MemberEdgesTest::lookAtVariable);
        Checks.sentence("look: 4 + i: parameter i", MemberEdgesTest::lookAtParameters);
        Checks.sentence("look: NONE for another one", MemberEdgesTest::lookAtNone);
        Checks.sentence("look: NONE for another what", MemberEdgesTest::lookAtNoWhat);
    }

    private static void lookAtLeastAndMost() {
        MemberChooser x = Made.classes(24);
        Checks.fixed(x, 8, 0);
        Checks.fixed(x, 31, 9, 0, 0, 0, 0);
        int[][] want = {{8, 0, 0}, {31, 9, 4}};
        for (int member = 0; member < 2; member++) {
            for (int what = 0; what < 3; what++) {
                Checks.dueLook(x, want[member][what], member, what);
            }
        }
    }

    private static void lookAtVariable() {
        MemberChooser x = withClassAndFace();
        Checks.fixed(x, 8, 0);
        Checks.dueLook(x, 0, 0, 3);
        for (int n = 1; n <= 4; n++) {
            Checks.dueMember(x, 2 * n - 1, 8, n, n, Checks.row(8, 8, 8, 8), false);
            Checks.dueLook(x, 0, 2 * n - 1, 3);
            Checks.dueMember(x, 2 * n, 9, n, n, Checks.row(8, 8, 8, 8), true);
            Checks.dueLook(x, 1, 2 * n, 3);
        }
    }

    private static void lookAtParameters() {
        MemberChooser x = Made.classes(24);
        int[] row = {31, Checks.INT, Checks.ANY, 8};
        for (int n = 0; n <= 4; n++) {
            Checks.dueMember(x, n, 8, 0, n, Checks.row(row), n == 4);
            for (int i = 0; i < 6; i++) {
                Checks.dueLook(x, i < n ? row[i] : -1, n, 4 + i);
            }
        }
    }

    private static void lookAtNone() {
        MemberChooser x = withClassAndFace();
        for (int none : new int[] {-1, -2, 1, 2, 79, 80, 81, 256, Integer.MIN_VALUE,
            Integer.MAX_VALUE}) {
            for (int what = 0; what <= 8; what++) {
                Checks.dueLook(x, -1, none, what);
            }
        }
        Checks.dueLook(x, -1, 0, 0);
        Checks.fixed(x, 8, 0);
        Checks.dueLook(x, 8, 0, 0);
        Checks.dueLook(x, -1, 1, 0);
    }

    private static void lookAtNoWhat() {
        MemberChooser x = withClassAndFace();
        Checks.fixed(x, 8, 0);
        Checks.fixed(x, 8, 0, 1, 1);
        Checks.variable(x, 8, 0, 1, 1, 1, 1);
        for (int member = 0; member < 3; member++) {
            for (int what : new int[] {-1, -2, -4, 8, 9, 12, 256, Integer.MIN_VALUE,
                Integer.MIN_VALUE + 4, Integer.MAX_VALUE, Integer.MAX_VALUE - 4}) {
                Checks.dueLook(x, -1, member, what);
            }
        }
        // Just behind the last parameter.
        Checks.dueLook(x, -1, 0, 4);
        Checks.dueLook(x, -1, 1, 6);
    }
}
