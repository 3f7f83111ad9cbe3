/** Each sentence on what is MEANT that names an edge: Terms, promise 7. */
public final class MeantEdgesTest {
    public static void main(String[] args) {
        Checks.sentence("MEANT at a type by a name are its own members with it",
                MeantEdgesTest::ownMembersOfTheName);
        Checks.sentence("and those of what is above it", MeantEdgesTest::thoseOfAllAbove);
        Checks.sentence("but those with the parameters of one that comes ahead",
                MeantEdgesTest::hiddenByOneAhead);
        Checks.sentence("the parameters of one that comes ahead: VARIABLE or not",
                MeantEdgesTest::hiddenVariableOrNot);
        Checks.sentence("the parameters of one that comes ahead: all of them, in their order",
                MeantEdgesTest::notHiddenByOthers);
        Checks.sentence("first it and the classes above it one by one",
                MeantEdgesTest::classesOneByOne);
        Checks.sentence("then for each of these in that order its faces",
                MeantEdgesTest::facesBehindAllClasses);
        Checks.sentence("each followed by the faces above it likewise",
                MeantEdgesTest::eachFollowedByThoseAboveIt);
        Checks.sentence("(one that comes again counts once)", MeantEdgesTest::oneThatComesAgain);
        Checks.sentence("of each as they were told", MeantEdgesTest::ofEachAsTold);
        Checks.sentence("(At a face: it, then its faces.)", MeantEdgesTest::atAFace);
        Checks.sentence("The i-th member .., as they come", MeantEdgesTest::firstAndEightieth);
        Checks.sentence("meant: NONE if there is none: i", MeantEdgesTest::noSuchPlace);
        Checks.sentence("meant: NONE if there is none: a type", MeantEdgesTest::noSuchType);
        Checks.sentence("meant: NONE if there is none: a name", MeantEdgesTest::noSuchName);
        Checks.end();
    }

    private static void ownMembersOfTheName() {
        MemberChooser x = Made.classes(2);
        Checks.dueMeant(x, 8, 0);
        Checks.fixed(x, 8, 0);
        Checks.fixed(x, 8, 9);
        Checks.fixed(x, 9, 0, 1);
        Checks.dueMeant(x, 8, 0, 0);
        Checks.dueMeant(x, 8, 9, 1);
        Checks.dueMeant(x, 9, 0, 2);
        Checks.dueMeant(x, 9, 9);
        Checks.dueMeant(x, 8, 5);
    }

    /** Those of the top of a chain of 24, and none of what is below or beside. */
    private static void thoseOfAllAbove() {
        for (MemberChooser x : new MemberChooser[] {Made.classChain(24), Made.faceChain(24)}) {
            Checks.fixed(x, 8, 0, 0);
            Checks.fixed(x, 31, 0, 1);
            Checks.dueMeant(x, 31, 0, 1, 0);
            Checks.dueMeant(x, 30, 0, 0);
            Checks.dueMeant(x, 8, 0, 0);
        }
        MemberChooser beside = Made.withClass();
        beside.type(8);
        beside.type(8);
        Checks.fixed(beside, 9, 0);
        Checks.dueMeant(beside, 10, 0);
        Checks.dueMeant(beside, 8, 0);
        // Any is above all, but no owner of members: nothing comes from it.
        Checks.dueMeant(beside, Checks.ANY, 0);
    }

    /** 8 above 9; faces 10 above 9, 11 above 8, 12 above 10: in the order 9, 8, 10, 12, 11. */
    private static MemberChooser withFive() {
        MemberChooser x = Made.classChain(2);
        x.face();
        x.face();
        x.face();
        x.join(9, 10);
        x.join(8, 11);
        x.join(10, 12);
        return x;
    }

    private static void hiddenByOneAhead() {
        int[] order = {11, 12, 10, 8, 9};
        for (int n = 0; n <= 4; n++) {
            MemberChooser x = withFive();
            // From the last one to the first: each hides all that stood there.
            for (int i = 0; i < order.length; i++) {
                Checks.dueMember(x, i, order[i], 3, n, Checks.row(7, 0, 8, 12), false);
                Checks.dueMeant(x, 9, 3, i);
            }
            Checks.dueMeant(x, 8, 3, 3);
            Checks.dueMeant(x, 10, 3, 2);
            Checks.dueMeant(x, 11, 3, 0);
        }
    }

    private static void hiddenVariableOrNot() {
        for (int which = 0; which < 4; which++) {
            MemberChooser x = withFive();
            Checks.dueMember(x, 0, 9, 3, 1, Checks.row(6), which % 2 == 1);
            Checks.dueMember(x, 1, 8, 3, 1, Checks.row(6), which / 2 == 1);
            Checks.dueMember(x, 2, 12, 3, 1, Checks.row(6), which / 2 == 0);
            Checks.dueMeant(x, 9, 3, 0);
            Checks.dueMeant(x, 8, 3, 1);
            Checks.dueMeant(x, 10, 3, 2);
        }
    }

    private static void notHiddenByOthers() {
        MemberChooser x = withFive();
        Checks.fixed(x, 9, 3, 0, 1);
        Checks.fixed(x, 9, 4, 0, 0);
        Checks.fixed(x, 8, 3, 1, 0);
        Checks.fixed(x, 8, 3, 0);
        Checks.fixed(x, 8, 3);
        Checks.fixed(x, 8, 3, 0, 0);
        Checks.fixed(x, 11, 3, 0, 0, 0, 0);
        Checks.fixed(x, 11, 3, 0, 0, 0);
        // A parameter's subtype is not that parameter.
        Checks.fixed(x, 12, 3, 1, 1);
        Checks.dueMeant(x, 9, 3, 0, 2, 3, 4, 5, 8, 6, 7);
    }

    private static void classesOneByOne() {
        MemberChooser x = Made.classChain(24);
        int[] want = new int[24];
        for (int i = 0; i < 24; i++) {
            Checks.fixed(x, 8 + i, 0, i);
            want[23 - i] = i;
        }
        Checks.dueMeant(x, 31, 0, want);
        Checks.dueMeant(x, 9, 0, 1, 0);
        Checks.dueMeant(x, 8, 0, 0);
    }

    private static void facesBehindAllClasses() {
        MemberChooser x = withFive();
        Checks.fixed(x, 12, 0, 0);
        Checks.fixed(x, 11, 0, 1);
        Checks.fixed(x, 10, 0, 2);
        Checks.fixed(x, 8, 0, 3);
        Checks.fixed(x, 9, 0, 4);
        Checks.dueMeant(x, 9, 0, 4, 3, 2, 0, 1);
        // In the order in which they were told above, not that of their numbers.
        MemberChooser turned = Made.classChain(2);
        for (int face = 10; face <= 13; face++) {
            turned.face();
            Checks.fixed(turned, face, 0, face);
        }
        turned.join(8, 11);
        turned.join(8, 10);
        turned.join(9, 13);
        turned.join(9, 12);
        Checks.dueMeant(turned, 9, 0, 3, 2, 1, 0);
    }

    /** Faces 9 and 10 above class 8; the odd ones in a chain above 9, the even ones above 10. */
    private static void eachFollowedByThoseAboveIt() {
        MemberChooser x = Made.withClass();
        for (int face = 9; face <= 31; face++) {
            x.face();
            Checks.fixed(x, face, 0, face);
            x.join(face <= 10 ? 8 : face - 2, face);
        }
        int[] want = new int[23];
        for (int i = 0; i < 23; i++) {
            // The odd ones from 9 to 31 first, then the even ones from 10 to 30.
            want[i] = i < 12 ? 2 * i : 2 * (i - 12) + 1;
        }
        Checks.dueMeant(x, 8, 0, want);
    }

    /** Faces 10 and 11 with 12 above both, and 12 above the class too, in all places. */
    private static void oneThatComesAgain() {
        int[][] orders = {{10, 11, 12}, {12, 10, 11}, {11, 12, 10}};
        int[][] wants = {{0, 2, 1}, {2, 0, 1}, {1, 2, 0}};
        for (int i = 0; i < orders.length; i++) {
            MemberChooser x = Made.classChain(2);
            for (int face = 10; face <= 12; face++) {
                x.face();
                Checks.fixed(x, face, 0, face);
            }
            x.join(10, 12);
            x.join(11, 12);
            for (int face : orders[i]) {
                x.join(9, face);
            }
            x.join(8, 12);
            x.join(8, 10);
            Checks.dueMeant(x, 9, 0, wants[i]);
            Checks.dueMeant(x, 8, 0, 2, 0);
        }
        // Five layers of four faces, each below all four of the next one: each comes once.
        MemberChooser many = Made.faces(20);
        for (int face = 8; face < 24; face++) {
            for (int next = 0; next < 4; next++) {
                many.join(face, 8 + (face / 4 - 1) * 4 + next);
            }
        }
        Checks.fixed(many, 27, 0);
        Checks.fixed(many, 26, 0, 0);
        // The last one to come, behind all that come again and again.
        Checks.fixed(many, 15, 0, 1);
        Checks.dueMeant(many, 8, 0, 1, 0, 2);
    }

    private static void ofEachAsTold() {
        MemberChooser x = Made.classChain(2);
        Checks.fixed(x, 8, 0, 7);
        Checks.fixed(x, 9, 0, 6);
        Checks.fixed(x, 9, 0);
        Checks.fixed(x, 8, 0, 3);
        Checks.variable(x, 9, 0, 0);
        Checks.fixed(x, 8, 0, 0, 0);
        Checks.dueMeant(x, 9, 0, 1, 2, 4, 0, 3, 5);
        Checks.dueMeant(x, 8, 0, 0, 3, 5);
    }

    private static void atAFace() {
        MemberChooser x = Made.faces(4);
        x.type(-1);
        x.join(12, 8);
        x.join(8, 10);
        x.join(8, 9);
        x.join(10, 11);
        for (int owner = 8; owner <= 12; owner++) {
            Checks.fixed(x, owner, 0, owner);
        }
        Checks.dueMeant(x, 8, 0, 0, 2, 3, 1);
        Checks.dueMeant(x, 9, 0, 1);
        Checks.dueMeant(x, 11, 0, 3);
        Checks.dueMeant(x, 12, 0, 4, 0, 2, 3, 1);
    }

    /** All eighty members may be meant at one type by one name. */
    private static void firstAndEightieth() {
        MemberChooser x = Made.classChain(10);
        int[] want = new int[80];
        for (int i = 0; i < 80; i++) {
            Checks.fixed(x, 8 + i % 10, 0, i / 10, i % 10);
        }
        for (int i = 0; i < 80; i++) {
            want[i] = i % 8 * 10 + 9 - i / 8;
        }
        Checks.dueMeant(x, 17, 0, want);
    }

    private static void noSuchPlace() {
        MemberChooser x = Made.withClass();
        Checks.fixed(x, 8, 0);
        Checks.fixed(x, 8, 0, 0);
        for (int none : new int[] {-1, -2, 2, 3, 79, 80, 81, 256, Integer.MIN_VALUE,
            Integer.MIN_VALUE + 1, Integer.MAX_VALUE}) {
            Checks.due(-1, "meant(8, 0, " + none + ")", () -> x.meant(8, 0, none));
            Checks.due(-1, "meant(8, 1, " + none + ")", () -> x.meant(8, 1, none));
        }
        Checks.dueMeant(x, 8, 0, 0, 1);
        Checks.dueMeant(x, 8, 1);
    }

    private static void noSuchType() {
        MemberChooser x = Made.withClass();
        Checks.fixed(x, 8, 0);
        // Asked first, so that a row left over from it would show.
        Checks.dueMeant(x, 8, 0, 0);
        for (int none : new int[] {-1, -2, -248, 0, 1, 2, 3, 4, 5, 6, 7, 9, 31, 32, 33, 256, 264,
            Integer.MIN_VALUE, Integer.MIN_VALUE + 8, Integer.MAX_VALUE}) {
            Checks.due(-1, "meant(" + none + ", 0, 0)", () -> x.meant(none, 0, 0));
        }
    }

    private static void noSuchName() {
        MemberChooser x = Made.withClass();
        for (int name = 0; name <= 9; name++) {
            Checks.fixed(x, 8, name);
        }
        Checks.dueMeant(x, 8, 9, 9);
        for (int none : new int[] {-1, -2, 10, 11, 256, 265, Integer.MIN_VALUE,
            Integer.MAX_VALUE}) {
            Checks.due(-1, "meant(8, " + none + ", 0)", () -> x.meant(8, none, 0));
        }
    }
}
