/** Promise 7: meant. */
public final class MeantTest {
    public static void main(String[] args) {
        classesAheadOfFaces();
        facesDepthFirst();
        aFaceThatComesAgain();
        hiddenByTheSameParameters();
        atAFace();
        wrongOnes();
        longChains();
        manyWaysToTheSameFaces();
        allFacesAboveOneClass();
        Checks.end();
    }

    /** 8 above 9; face 10 above 9, face 11 above 8. */
    private static void classesAheadOfFaces() {
        MemberChooser x = new MemberChooser();
        x.type(-1);
        x.type(8);
        x.face();
        x.face();
        x.join(8, 11);
        x.join(9, 10);
        Checks.fixed(x, 11, 0, 0);
        Checks.fixed(x, 10, 0, 1);
        Checks.fixed(x, 8, 0, 2);
        Checks.fixed(x, 9, 0, 3);
        Checks.fixed(x, 9, 1, 4);
        Checks.fixed(x, 8, 0, 5);
        Checks.fixed(x, 9, 0, 6);
        Checks.dueMeant(x, 9, 0, 3, 6, 2, 5, 1, 0);
        Checks.dueMeant(x, 8, 0, 2, 5, 0);
        Checks.dueMeant(x, 9, 1, 4);
        Checks.dueMeant(x, 8, 1);
    }

    /** Faces 9 and 10 above 8, in the order 10, 9; 11 above 10; 12 above 11; 13 above 9. */
    private static void facesDepthFirst() {
        MemberChooser x = new MemberChooser();
        x.type(-1);
        for (int face = 9; face <= 13; face++) {
            x.face();
            Checks.fixed(x, face, 0, face - 9);
        }
        x.join(8, 10);
        x.join(8, 9);
        x.join(10, 11);
        x.join(11, 12);
        x.join(9, 13);
        Checks.dueMeant(x, 8, 0, 1, 2, 3, 0, 4);
    }

    /** 9, 10 above 8 and 11 above both; 12 above 10 and 9, 9 telling it last. */
    private static void aFaceThatComesAgain() {
        MemberChooser x = new MemberChooser();
        x.type(-1);
        for (int face = 9; face <= 12; face++) {
            x.face();
            Checks.fixed(x, face, 0, face - 9);
        }
        x.join(8, 9);
        x.join(8, 10);
        x.join(10, 12);
        x.join(10, 11);
        x.join(9, 11);
        x.join(9, 12);
        Checks.dueMeant(x, 8, 0, 0, 2, 3, 1);
        Checks.dueMeant(x, 10, 0, 1, 3, 2);
        x.type(8);
        x.join(13, 12);
        Checks.dueMeant(x, 13, 0, 3, 0, 2, 1);
    }

    private static void hiddenByTheSameParameters() {
        MemberChooser x = new MemberChooser();
        x.type(-1);
        x.type(8);
        x.face();
        x.join(9, 10);
        Checks.fixed(x, 8, 0, 0, 1);
        Checks.fixed(x, 10, 0, 0, 1);
        Checks.fixed(x, 10, 0, 0);
        Checks.dueMeant(x, 9, 0, 0, 2);
        Checks.variable(x, 9, 0, 0, 1);
        Checks.dueMeant(x, 9, 0, 3, 2);
        Checks.dueMeant(x, 8, 0, 0);
        Checks.dueMeant(x, 10, 0, 1, 2);
        Checks.fixed(x, 8, 0, 0, 0);
        Checks.fixed(x, 9, 1, 0);
        Checks.dueMeant(x, 9, 0, 3, 4, 2);
        Checks.fixed(x, 8, 1);
        Checks.fixed(x, 9, 1);
        Checks.dueMeant(x, 9, 1, 5, 7);
    }

    private static void atAFace() {
        MemberChooser x = new MemberChooser();
        x.face();
        x.face();
        x.face();
        x.join(8, 9);
        x.join(9, 10);
        Checks.fixed(x, 10, 4, 0);
        Checks.fixed(x, 9, 4, 1);
        Checks.fixed(x, 8, 4, 2);
        Checks.fixed(x, 8, 4, 0);
        Checks.dueMeant(x, 8, 4, 2, 3, 1);
        Checks.dueMeant(x, 9, 4, 1, 0);
        Checks.dueMeant(x, 10, 4, 0);
    }

    private static void wrongOnes() {
        MemberChooser x = new MemberChooser();
        x.type(-1);
        Checks.fixed(x, 8, 0);
        for (int none : new int[] {-1, 0, 7, 9, 32, Integer.MIN_VALUE, Integer.MAX_VALUE}) {
            Checks.due(-1, "meant(" + none + ", 0, 0)", () -> x.meant(none, 0, 0));
        }
        for (int none : new int[] {-1, 1, 10, Integer.MIN_VALUE, Integer.MAX_VALUE}) {
            Checks.due(-1, "meant(8, " + none + ", 0)", () -> x.meant(8, none, 0));
            Checks.due(-1, "meant(8, 0, " + none + ")", () -> x.meant(8, 0, none));
        }
        Checks.due(0, "meant(8, 0, 0)", () -> x.meant(8, 0, 0));
        Checks.dueCount(x, 0, 2);
        Checks.dueCount(x, 0, 3);
    }

    private static void allFacesAboveOneClass() {
        MemberChooser x = new MemberChooser();
        x.type(-1);
        int[] want = new int[23];
        for (int i = 0; i < 23; i++) {
            x.face();
            Checks.fixed(x, 9 + i, 0, 9 + i);
            want[22 - i] = i;
        }
        for (int face = 31; face >= 9; face--) {
            x.join(8, face);
        }
        Checks.dueMeant(x, 8, 0, want);
    }

    /** Twelve layers of two faces, each with both of the next layer above it: 2048 ways up. */
    private static void manyWaysToTheSameFaces() {
        MemberChooser x = new MemberChooser();
        for (int i = 0; i < 24; i++) {
            x.face();
            Checks.fixed(x, 8 + i, 0, 8 + i);
        }
        for (int i = 0; i < 22; i++) {
            int next = 8 + (i / 2 + 1) * 2;
            x.join(8 + i, next);
            x.join(8 + i, next + 1);
        }
        // The first of each layer up to the top, then the second ones back down.
        int[] want = new int[23];
        for (int layer = 0; layer < 12; layer++) {
            want[layer] = layer * 2;
        }
        want[12] = 23;
        for (int i = 13; i < 23; i++) {
            want[i] = 21 - (i - 13) * 2;
        }
        Checks.dueMeant(x, 8, 0, want);
        Checks.due(24, "above(8, 3)", () -> x.above(8, 3));
    }

    private static void longChains() {
        MemberChooser classes = new MemberChooser();
        MemberChooser faces = new MemberChooser();
        int[] want = new int[24];
        for (int i = 0; i < 24; i++) {
            classes.type(i == 0 ? -1 : 7 + i);
            faces.face();
            Checks.fixed(classes, 8 + i, 0, i);
            if (i > 0) {
                faces.join(8 + i, 7 + i);
            }
            Checks.fixed(faces, 8 + i, 0, i);
            want[23 - i] = i;
        }
        Checks.dueMeant(classes, 31, 0, want);
        Checks.dueMeant(faces, 31, 0, want);
    }
}
