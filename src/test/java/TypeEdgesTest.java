/** Each sentence on classes and faces that names an edge: Terms, promises 1 to 4, 6 and 10. */
public final class TypeEdgesTest {
    /** No type in any object, and some that a byte or an int would fold onto one that is. */
    private static final int[] NEVER = {-1, -2, -248, 32, 33, 40, 255, 256, 264, 263, 65544,
        Integer.MIN_VALUE, Integer.MIN_VALUE + 8, Integer.MAX_VALUE};
    private static final int[] NO_WHATS = {-1, 4, 5, 32, 256, Integer.MIN_VALUE,
        Integer.MAX_VALUE};

    public static void main(String[] args) {
        terms();
        promisesOneToThree();
        promiseFour();
        promisesSixAndTen();
        Checks.end();
    }

    private static void terms() {
        Checks.sentence("0 int .. 7 Any", TypeEdgesTest::eightTypesStandFromTheBeginning);
        Checks.sentence("from 8 on CLASSES and FACES as they are told",
                TypeEdgesTest::eachStandsOnceItIsTold);
        Checks.sentence("(24 at most)", TypeEdgesTest::twentyFourOfBothKinds);
        Checks.sentence("A class has perhaps a class ABOVE it",
                TypeEdgesTest::noneOrOneClassAbove);
        Checks.sentence("classes and faces have FACES above them, in the order told",
                TypeEdgesTest::facesAboveBothKinds);
        Checks.sentence("A type is a SUBTYPE of itself", TypeEdgesTest::eachOfItself);
        Checks.sentence("all but primitives of Any", TypeEdgesTest::allButPrimitivesOfAny);
        Checks.sentence("a class or face of what is above it, and above that",
                TypeEdgesTest::ofAllAboveIt);
        Checks.sentence("int of long", TypeEdgesTest::intOfLong);
        Checks.sentence("NONE = -1: None", TypeEdgesTest::noneIsMinusOne);
    }

    private static void eightTypesStandFromTheBeginning() {
        MemberChooser x = Made.withClass();
        for (int type = 0; type <= 7; type++) {
            Checks.dueSubtype(x, true, type, type);
            Checks.dueMember(x, type, 8, 0, 1, Checks.row(type), false);
            // They are types, but no classes or faces.
            Checks.dueAbove(x, -1, type, 0);
            Checks.dueType(x, Checks.IAE, type);
            Checks.dueCall(x, Checks.IAE, type, 0);
            Checks.dueMember(x, Checks.IAE, type, 0, 0, 0L, false);
        }
        Checks.dueSubtype(x, false, -1, -1);
    }

    private static void eachStandsOnceItIsTold() {
        MemberChooser x = new MemberChooser();
        for (int type = 8; type <= 31; type++) {
            Checks.dueSubtype(x, false, type, type);
            Checks.dueAbove(x, -1, type, 0);
            if (type % 2 == 0) {
                Checks.dueType(x, type, -1);
            } else {
                Checks.dueFace(x, type);
            }
            Checks.dueSubtype(x, true, type, type);
            Checks.dueAbove(x, type % 2, type, 0);
            Checks.dueCount(x, type - 7, 0);
        }
    }

    private static void twentyFourOfBothKinds() {
        for (int classes = 0; classes <= 24; classes += 8) {
            MemberChooser x = Made.classes(classes);
            for (int type = 8 + classes; type <= 31; type++) {
                Checks.dueFace(x, type);
            }
            Checks.dueFace(x, Checks.ISE);
            Checks.dueType(x, Checks.ISE, -1);
            Checks.dueCount(x, 24, 0);
            Checks.dueSubtype(x, true, 31, 31);
            Checks.dueSubtype(x, false, 32, 32);
            Checks.dueAbove(x, -1, 32, 0);
        }
    }

    private static void noneOrOneClassAbove() {
        MemberChooser x = Made.classChain(24);
        Checks.dueAbove(x, -1, 8, 1);
        for (int type = 9; type <= 31; type++) {
            Checks.dueAbove(x, type - 1, type, 1);
        }
        MemberChooser flat = Made.withClass();
        for (int type = 9; type <= 31; type++) {
            Checks.dueType(flat, type, 8);
            Checks.dueAbove(flat, 8, type, 1);
        }
        Checks.dueAbove(flat, -1, 8, 1);
    }

    private static void facesAboveBothKinds() {
        for (int kind = 0; kind <= 1; kind++) {
            MemberChooser x = kind == 0 ? Made.withClass() : Made.faces(1);
            for (int face = 9; face <= 31; face++) {
                x.face();
                Checks.fixed(x, face, 0, face);
            }
            int[] want = new int[23];
            for (int i = 0; i < 23; i++) {
                // Seven has no divisor in common with 23: all come, in an order of their own.
                want[i] = i * 7 % 23;
                Checks.dueJoin(x, true, 8, 9 + want[i]);
            }
            Checks.dueAbove(x, 23, 8, 2);
            Checks.dueMeant(x, 8, 0, want);
        }
    }

    private static void eachOfItself() {
        MemberChooser x = Made.classes(12);
        for (int i = 0; i < 12; i++) {
            x.face();
        }
        for (int type = 0; type <= 31; type++) {
            Checks.dueSubtype(x, true, type, type);
        }
        // And of no other one of its kind.
        for (int type = 8; type < 31; type++) {
            Checks.dueSubtype(x, false, type, type + 1);
            Checks.dueSubtype(x, false, type + 1, type);
        }
    }

    private static void allButPrimitivesOfAny() {
        MemberChooser x = Made.classes(12);
        for (int i = 0; i < 12; i++) {
            x.face();
        }
        for (int type = 0; type <= 31; type++) {
            Checks.dueSubtype(x, type >= 3, type, Checks.ANY);
            Checks.dueSubtype(x, type == Checks.ANY, Checks.ANY, type);
        }
    }

    private static void ofAllAboveIt() {
        MemberChooser classes = Made.classChain(24);
        MemberChooser faces = Made.faceChain(24);
        for (int type = 8; type <= 31; type++) {
            for (int of : new int[] {8, 9, 19, 20, 30, 31}) {
                Checks.dueSubtype(classes, of <= type, type, of);
                Checks.dueSubtype(faces, of <= type, type, of);
            }
        }
        // A class above, its face, and that one's face, told from the top down and back.
        for (int order = 0; order <= 1; order++) {
            MemberChooser x = Made.classChain(2);
            x.face();
            x.face();
            x.join(order == 0 ? 8 : 10, order == 0 ? 10 : 11);
            x.join(order == 0 ? 10 : 8, order == 0 ? 11 : 10);
            Checks.dueSubtype(x, true, 9, 11);
            Checks.dueSubtype(x, true, 9, 10);
            Checks.dueSubtype(x, false, 11, 9);
            Checks.dueSubtype(x, false, 10, 8);
        }
    }

    private static void intOfLong() {
        MemberChooser x = Made.withClass();
        for (int type = 0; type <= 8; type++) {
            Checks.dueSubtype(x, type == Checks.INT || type == Checks.LONG, type, Checks.LONG);
            Checks.dueSubtype(x, type == Checks.INT, type, Checks.INT);
            Checks.dueSubtype(x, type == Checks.BOOL, type, Checks.BOOL);
            Checks.dueSubtype(x, type == Checks.BOXED_INT, type, Checks.BOXED_INT);
            Checks.dueSubtype(x, type == Checks.BOXED_LONG, type, Checks.BOXED_LONG);
            Checks.dueSubtype(x, type == Checks.BOXED_BOOL, type, Checks.BOXED_BOOL);
            Checks.dueSubtype(x, type == Checks.TEXT, type, Checks.TEXT);
        }
    }

    private static void noneIsMinusOne() {
        Checks.due(-1, "NONE", () -> MemberChooser.NONE);
    }

    private static void promisesOneToThree() {
        Checks.sentence("No classes, no members.", TypeEdgesTest::nothingAtFirst);
        Checks.sentence("A class, with a class above it (NONE: none): its type.",
                TypeEdgesTest::classWithAndWithoutOneAbove);
        Checks.sentence("type: IllegalArgumentException if that is none",
                TypeEdgesTest::noClassToStandAbove);
        Checks.sentence("type: IllegalStateException if there are 24.",
                TypeEdgesTest::noTwentyFifthClass);
        Checks.sentence("A face: its type.", TypeEdgesTest::faceIsToldItsType);
        Checks.sentence("face: IllegalStateException if there are 24.",
                TypeEdgesTest::noTwentyFifthFace);
    }

    private static void nothingAtFirst() {
        MemberChooser x = new MemberChooser();
        for (int what = 0; what <= 5; what++) {
            Checks.dueCount(x, 0, what);
        }
        for (int type = 0; type <= 33; type++) {
            Checks.dueAbove(x, -1, type, 0);
            Checks.dueSubtype(x, type <= 7, type, type);
            Checks.dueCall(x, Checks.IAE, type, 0);
            Checks.dueMember(x, Checks.IAE, type, 0, 0, 0L, false);
        }
        for (int member = -1; member <= 80; member++) {
            Checks.dueLook(x, -1, member, 0);
        }
        Checks.dueMeant(x, 8, 0);
        Checks.dueJoin(x, false, 8, 9);
        Checks.dueType(x, Checks.IAE, 8);
    }

    private static void classWithAndWithoutOneAbove() {
        MemberChooser x = new MemberChooser();
        Checks.dueType(x, 8, MemberChooser.NONE);
        Checks.dueType(x, 9, 8);
        Checks.dueType(x, 10, MemberChooser.NONE);
        Checks.dueType(x, 11, 10);
        Checks.dueSubtype(x, true, 9, 8);
        Checks.dueSubtype(x, false, 10, 8);
        Checks.dueSubtype(x, false, 11, 8);
        Checks.dueSubtype(x, true, 11, 10);
        for (int type = 8; type <= 11; type++) {
            Checks.dueAbove(x, 0, type, 0);
        }
    }

    private static void noClassToStandAbove() {
        MemberChooser x = Made.withClass();
        x.face();
        for (int none : NEVER) {
            if (none != MemberChooser.NONE) {
                Checks.dueType(x, Checks.IAE, none);
            }
        }
        for (int builtIn = 0; builtIn <= 7; builtIn++) {
            Checks.dueType(x, Checks.IAE, builtIn);
        }
        // A face, the one that it would be itself, and the next one.
        Checks.dueType(x, Checks.IAE, 9);
        Checks.dueType(x, Checks.IAE, 10);
        Checks.dueType(x, Checks.IAE, 11);
        Checks.dueCount(x, 2, 0);
        Checks.dueType(x, 10, 8);
    }

    private static void noTwentyFifthClass() {
        MemberChooser x = Made.classes(23);
        Checks.dueType(x, 31, 30);
        Checks.dueType(x, Checks.ISE, -1);
        Checks.dueType(x, Checks.ISE, 8);
        Checks.dueType(x, Checks.ISE, 31);
        Checks.dueCount(x, 24, 0);
        MemberChooser faces = Made.faces(24);
        Checks.dueType(faces, Checks.ISE, -1);
        Checks.dueCount(faces, 24, 0);
    }

    private static void faceIsToldItsType() {
        MemberChooser x = new MemberChooser();
        for (int type = 8; type <= 31; type++) {
            Checks.dueFace(x, type);
            Checks.dueAbove(x, 1, type, 0);
            Checks.dueAbove(x, -1, type, 1);
        }
    }

    private static void noTwentyFifthFace() {
        MemberChooser x = Made.faces(23);
        Checks.dueFace(x, 31);
        Checks.dueFace(x, Checks.ISE);
        Checks.dueFace(x, Checks.ISE);
        Checks.dueCount(x, 24, 0);
        MemberChooser classes = Made.classes(24);
        Checks.dueFace(classes, Checks.ISE);
        Checks.dueCount(classes, 24, 0);
    }

    private static void promiseFour() {
        Checks.sentence("A class or face has a face more above it: true",
                TypeEdgesTest::joinOfBothKinds);
        Checks.sentence("join: false if there are no such ones", TypeEdgesTest::joinOfNone);
        Checks.sentence("join: it has that already just so", TypeEdgesTest::joinTwice);
        Checks.sentence("join: or that is it", TypeEdgesTest::joinToItself);
        Checks.sentence("join: or has it above it", TypeEdgesTest::joinInARing);
    }

    private static void joinOfBothKinds() {
        MemberChooser x = Made.classChain(2);
        x.face();
        x.face();
        Checks.dueJoin(x, true, 8, 10);
        Checks.dueJoin(x, true, 10, 11);
        // Above it by another way, but not told just so: one more.
        Checks.dueJoin(x, true, 9, 10);
        Checks.dueJoin(x, true, 9, 11);
        Checks.dueAbove(x, 2, 9, 2);
        Checks.dueAbove(x, 1, 8, 2);
        Checks.dueAbove(x, 1, 10, 2);
        Checks.dueAbove(x, 0, 11, 2);
        MemberChooser last = Made.faces(24);
        Checks.dueJoin(last, true, 31, 8);
        Checks.dueJoin(last, true, 30, 31);
        Checks.dueSubtype(last, true, 30, 8);
    }

    private static void joinOfNone() {
        MemberChooser x = Made.classes(2);
        x.face();
        for (int none : NEVER) {
            Checks.dueJoin(x, false, none, 10);
            Checks.dueJoin(x, false, 8, none);
            Checks.dueJoin(x, false, none, none);
        }
        for (int builtIn = 0; builtIn <= 7; builtIn++) {
            Checks.dueJoin(x, false, builtIn, 10);
            Checks.dueJoin(x, false, 8, builtIn);
        }
        // Not told yet, and classes in a face's place.
        Checks.dueJoin(x, false, 11, 10);
        Checks.dueJoin(x, false, 8, 11);
        Checks.dueJoin(x, false, 8, 9);
        Checks.dueJoin(x, false, 10, 8);
        for (int type = 8; type <= 10; type++) {
            Checks.dueAbove(x, 0, type, 2);
            Checks.dueAbove(x, 2, type, 3);
        }
    }

    private static void joinTwice() {
        MemberChooser x = Made.classBelowFaces(23);
        for (int face = 9; face <= 31; face++) {
            Checks.dueJoin(x, false, 8, face);
        }
        Checks.dueAbove(x, 23, 8, 2);
        MemberChooser faces = Made.faces(3);
        Checks.dueJoin(faces, true, 8, 9);
        Checks.dueJoin(faces, true, 8, 10);
        Checks.dueJoin(faces, false, 8, 9);
        Checks.dueJoin(faces, false, 8, 10);
        Checks.dueAbove(faces, 2, 8, 2);
    }

    private static void joinToItself() {
        MemberChooser x = Made.faces(24);
        for (int type = 8; type <= 31; type++) {
            Checks.dueJoin(x, false, type, type);
            Checks.dueAbove(x, 0, type, 2);
        }
        MemberChooser one = Made.withClass();
        Checks.dueJoin(one, false, 8, 8);
        Checks.dueAbove(one, 0, 8, 2);
    }

    private static void joinInARing() {
        MemberChooser x = Made.faceChain(24);
        for (int type = 8; type <= 31; type++) {
            for (int below = type + 1; below <= 31; below += 5) {
                Checks.dueJoin(x, false, type, below);
            }
        }
        Checks.dueJoin(x, false, 8, 31);
        Checks.dueAbove(x, 0, 8, 2);
        // The other way it is no ring.
        Checks.dueJoin(x, true, 31, 8);
    }

    private static void promisesSixAndTen() {
        Checks.sentence("subtype: false if there are no such ones",
                TypeEdgesTest::subtypeOfNone);
        Checks.sentence("above: what 0: 1 if it is a face", TypeEdgesTest::whetherItIsAFace);
        Checks.sentence("above: 1: the class above it (NONE)", TypeEdgesTest::theClassAbove);
        Checks.sentence("above: 2: how many faces are told above it",
                TypeEdgesTest::howManyFaces);
        Checks.sentence("above: 3: how many types it is a subtype of",
                TypeEdgesTest::howManyTypes);
        Checks.sentence("above: NONE for another one", TypeEdgesTest::aboveOfNone);
        Checks.sentence("above: NONE for another what", TypeEdgesTest::aboveOfNoWhat);
    }

    private static void subtypeOfNone() {
        MemberChooser x = Made.withClass();
        x.face();
        for (int none : NEVER) {
            Checks.dueSubtype(x, false, none, none);
            Checks.dueSubtype(x, false, none, Checks.ANY);
            Checks.dueSubtype(x, false, none, 8);
            Checks.dueSubtype(x, false, 8, none);
            Checks.dueSubtype(x, false, Checks.INT, none);
        }
        for (int later = 10; later <= 31; later++) {
            Checks.dueSubtype(x, false, later, later);
            Checks.dueSubtype(x, false, later, Checks.ANY);
            Checks.dueSubtype(x, false, 9, later);
        }
    }

    private static void whetherItIsAFace() {
        MemberChooser x = Made.classes(12);
        for (int i = 0; i < 12; i++) {
            x.face();
        }
        for (int type = 8; type <= 31; type++) {
            Checks.dueAbove(x, type < 20 ? 0 : 1, type, 0);
        }
    }

    private static void theClassAbove() {
        MemberChooser x = Made.classBelowFaces(2);
        Checks.dueType(x, 11, 8);
        Checks.dueAbove(x, -1, 8, 1);
        Checks.dueAbove(x, 8, 11, 1);
        x.join(9, 10);
        x.join(11, 9);
        // A face above is no class above.
        Checks.dueAbove(x, -1, 9, 1);
        Checks.dueAbove(x, -1, 10, 1);
        Checks.dueAbove(x, 8, 11, 1);
    }

    private static void howManyFaces() {
        MemberChooser x = Made.withClass();
        for (int face = 9; face <= 31; face++) {
            Checks.dueAbove(x, face - 9, 8, 2);
            x.face();
            x.join(8, face);
        }
        Checks.dueAbove(x, 23, 8, 2);
        // Those above the faces or the class above are not told above it.
        MemberChooser chain = Made.faceChain(24);
        Checks.dueAbove(chain, 0, 8, 2);
        Checks.dueAbove(chain, 1, 31, 2);
        MemberChooser below = Made.classBelowFaces(22);
        Checks.dueType(below, 31, 8);
        Checks.dueAbove(below, 0, 31, 2);
    }

    private static void howManyTypes() {
        MemberChooser one = Made.withClass();
        Checks.dueAbove(one, 2, 8, 3);
        MemberChooser classes = Made.classChain(24);
        MemberChooser faces = Made.faceChain(24);
        for (int type = 8; type <= 31; type++) {
            Checks.dueAbove(classes, type - 6, type, 3);
            Checks.dueAbove(faces, type - 6, type, 3);
        }
        Checks.dueAbove(Made.classBelowFaces(23), 25, 8, 3);
        // One that is above by two ways is one type.
        MemberChooser twice = Made.classBelowFaces(3);
        twice.join(9, 11);
        twice.join(10, 11);
        Checks.dueAbove(twice, 5, 8, 3);
    }

    private static void aboveOfNone() {
        MemberChooser x = Made.withClass();
        x.face();
        for (int what = 0; what <= 3; what++) {
            for (int none : NEVER) {
                Checks.dueAbove(x, -1, none, what);
            }
            for (int builtIn = 0; builtIn <= 7; builtIn++) {
                Checks.dueAbove(x, -1, builtIn, what);
            }
            Checks.dueAbove(x, -1, 10, what);
            Checks.dueAbove(x, -1, 31, what);
        }
    }

    private static void aboveOfNoWhat() {
        MemberChooser x = Made.classBelowFaces(2);
        Checks.dueType(x, 11, 8);
        for (int what : NO_WHATS) {
            for (int type = 8; type <= 11; type++) {
                Checks.dueAbove(x, -1, type, what);
            }
        }
    }
}
