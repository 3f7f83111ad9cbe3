import java.util.Arrays;

/** Each sentence on calls and phases that names an edge: Terms, promise 8. */
public final class CallEdgesTest {
    private static final int INT = Checks.INT;
    private static final int LONG = Checks.LONG;
    private static final int BOOL = Checks.BOOL;
    private static final int BOXED_INT = Checks.BOXED_INT;
    private static final int BOXED_LONG = Checks.BOXED_LONG;
    private static final int BOXED_BOOL = Checks.BOXED_BOOL;
    private static final int TEXT = Checks.TEXT;
    private static final int ANY = Checks.ANY;
    private static final int NULL = Checks.NULL;
    private static final int[] VALUES = {BOXED_INT, BOXED_LONG, BOXED_BOOL, TEXT, ANY, 8, NULL};

    public static void main(String[] args) {
        phaseOneAndTwo();
        phaseThree();
        theOneThatIsMeant();
        promiseEight();
        Checks.end();
    }

    private static int[] times(int many, int type) {
        int[] row = new int[many];
        Arrays.fill(row, type);
        return row;
    }

    /** What came of a call, and the phase in which it came to its end. */
    private static void dueIn(MemberChooser x, int phase, Object want, int name, int... values) {
        Checks.dueCall(x, want, 8, name, values);
        Checks.dueCount(x, phase, 5);
    }

    private static void phaseOneAndTwo() {
        Checks.sentence("A CALL has 0 .. 6 values", CallEdgesTest::noneToSixValues);
        Checks.sentence("each is null, or of a type that is no primitive",
                CallEdgesTest::nullOrNoPrimitive);
        Checks.sentence("PHASE 1: of those without a variable one",
                CallEdgesTest::noVariableOneInPhasesOneAndTwo);
        Checks.sentence("as many parameters as values", CallEdgesTest::asManyAsValues);
        Checks.sentence("each value null or of a subtype of the parameter",
                CallEdgesTest::nullOrOfASubtype);
        Checks.sentence("which is no primitive", CallEdgesTest::noPrimitiveInPhaseOne);
        Checks.sentence("PHASE 2: .. Int goes to int and long, Long to long, Bool to bool",
                CallEdgesTest::whatGoesToPrimitives);
        Checks.sentence("PHASE 2: the same", CallEdgesTest::mixedInPhaseTwo);
    }

    private static void noneToSixValues() {
        MemberChooser x = Made.withClass();
        Checks.variable(x, 8, 0, ANY);
        for (int many = 0; many <= 6; many++) {
            Checks.dueCall(x, 0, 8, 0, times(many, TEXT));
        }
        Checks.dueCount(x, 7, 3);
        Checks.dueCall(x, Checks.IAE, 8, 0, times(7, TEXT));
        Checks.due(Checks.IAE, "call(8, 0, -1, 0)", () -> x.call(8, 0, -1, 0L));
        Checks.dueCount(x, 7, 3);
    }

    private static void nullOrNoPrimitive() {
        MemberChooser x = Made.classes(12);
        for (int i = 0; i < 12; i++) {
            x.face();
        }
        Checks.fixed(x, 8, 0, ANY);
        for (int value = 0; value <= 2; value++) {
            Checks.dueCall(x, Checks.IAE, 8, 0, value);
        }
        for (int value = 3; value <= 31; value++) {
            Checks.dueCall(x, 0, 8, 0, value);
        }
        Checks.dueCall(x, Checks.IAE, 8, 0, 32);
        Checks.dueCall(x, Checks.IAE, 8, 0, 254);
        Checks.dueCall(x, 0, 8, 0, NULL);
        Checks.dueCount(x, 30, 2);
    }

    private static void noVariableOneInPhasesOneAndTwo() {
        MemberChooser x = Made.withClass();
        Checks.variable(x, 8, 0, TEXT);
        dueIn(x, 3, 0, 0, TEXT);
        Checks.variable(x, 8, 1, INT);
        dueIn(x, 3, 1, 1, BOXED_INT);
        Checks.variable(x, 8, 2, TEXT, TEXT, TEXT, TEXT);
        dueIn(x, 3, 2, 2, TEXT, TEXT, TEXT, TEXT);
        // Of those without, a far less specific one is ahead of it.
        Checks.fixed(x, 8, 0, ANY);
        dueIn(x, 1, 3, 0, TEXT);
        Checks.fixed(x, 8, 1, LONG);
        dueIn(x, 2, 4, 1, BOXED_INT);
    }

    private static void asManyAsValues() {
        MemberChooser x = Made.withClass();
        for (int n = 0; n <= 4; n++) {
            Checks.fixed(x, 8, n, times(n, ANY));
            Checks.fixed(x, 8, 5 + n, times(n, INT));
        }
        for (int n = 0; n <= 4; n++) {
            for (int many = 0; many <= 6; many++) {
                Checks.dueCall(x, many == n ? 2 * n : Checks.UNFIT, 8, n, times(many, TEXT));
                Checks.dueCall(x, many == n ? 2 * n + 1 : Checks.UNFIT, 8, 5 + n,
                        times(many, BOXED_INT));
            }
        }
        // Members of all numbers at once: the number alone chooses.
        MemberChooser all = Made.withClass();
        for (int n = 0; n <= 4; n++) {
            Checks.fixed(all, 8, 0, times(n, ANY));
        }
        for (int many = 0; many <= 6; many++) {
            Checks.dueCall(all, many <= 4 ? many : Checks.UNFIT, 8, 0, times(many, NULL));
        }
    }

    private static void nullOrOfASubtype() {
        // 8 above 9, 9 above 10; face 11 above 9.
        MemberChooser x = Made.classChain(3);
        x.face();
        x.join(9, 11);
        for (int parameter = 3; parameter <= 11; parameter++) {
            int name = parameter - 3;
            int member = Checks.fixed(x, 8, name, ANY, parameter, ANY);
            for (int value = 3; value <= 11; value++) {
                boolean fits = value == parameter || parameter == ANY
                        || (value == 9 && parameter == 8)
                        || (value == 10 && (parameter == 8 || parameter == 9))
                        || (value >= 9 && value <= 10 && parameter == 11);
                dueIn(x, fits ? 1 : 0, fits ? member : Checks.UNFIT, name, TEXT, value, TEXT);
            }
            dueIn(x, 1, member, name, TEXT, NULL, TEXT);
        }
        // The first, the last, and each between must go.
        int last = Checks.fixed(x, 8, 9, 9, 9, 9, 9);
        for (int place = 0; place < 4; place++) {
            int[] values = {10, 9, NULL, 9};
            values[place] = 8;
            Checks.dueCall(x, Checks.UNFIT, 8, 9, values);
        }
        dueIn(x, 1, last, 9, 10, 9, NULL, 9);
        dueIn(x, 1, last, 9, NULL, NULL, NULL, NULL);
    }

    private static void noPrimitiveInPhaseOne() {
        MemberChooser x = Made.withClass();
        // int is ahead of Any by nothing but its phase, which is the later one.
        Checks.fixed(x, 8, 0, INT);
        Checks.fixed(x, 8, 0, ANY);
        dueIn(x, 1, 1, 0, BOXED_INT);
        dueIn(x, 1, 1, 0, NULL);
        for (int primitive = 0; primitive <= 2; primitive++) {
            int name = 1 + primitive;
            Checks.fixed(x, 8, name, primitive);
            dueIn(x, 0, Checks.UNFIT, name, NULL);
            Checks.fixed(x, 8, name, TEXT, primitive);
            dueIn(x, 0, Checks.UNFIT, name, TEXT, NULL);
            Checks.variable(x, 8, name, primitive, primitive);
            dueIn(x, 0, Checks.UNFIT, name, NULL);
        }
        int one = Checks.fixed(x, 8, 9, TEXT, BOOL);
        dueIn(x, 2, one, 9, TEXT, BOXED_BOOL);
    }

    private static boolean unboxes(int value, int primitive) {
        return (value == BOXED_INT && (primitive == INT || primitive == LONG))
                || (value == BOXED_LONG && primitive == LONG)
                || (value == BOXED_BOOL && primitive == BOOL);
    }

    private static void whatGoesToPrimitives() {
        for (int primitive = 0; primitive <= 2; primitive++) {
            MemberChooser x = Made.withClass();
            Checks.fixed(x, 8, 0, primitive);
            Checks.fixed(x, 8, 1, primitive, primitive, primitive, primitive);
            for (int value : VALUES) {
                boolean fits = unboxes(value, primitive);
                dueIn(x, fits ? 2 : 0, fits ? 0 : Checks.UNFIT, 0, value);
                for (int place = 0; place < 4; place++) {
                    int[] values = times(4, BOXED_INT + primitive);
                    values[place] = value;
                    dueIn(x, fits ? 2 : 0, fits ? 1 : Checks.UNFIT, 1, values);
                }
            }
        }
        // No boxed one goes to another boxed one, in no phase.
        MemberChooser boxed = Made.withClass();
        Checks.fixed(boxed, 8, 0, BOXED_LONG);
        Checks.variable(boxed, 8, 0, BOXED_LONG, BOXED_LONG);
        dueIn(boxed, 0, Checks.UNFIT, 0, BOXED_INT);
    }

    private static void mixedInPhaseTwo() {
        MemberChooser x = Made.withClass();
        Checks.fixed(x, 8, 0, ANY, INT, 8, LONG);
        dueIn(x, 2, 0, 0, TEXT, BOXED_INT, NULL, BOXED_INT);
        dueIn(x, 2, 0, 0, NULL, BOXED_INT, 8, BOXED_LONG);
        dueIn(x, 0, Checks.UNFIT, 0, TEXT, BOXED_INT, TEXT, BOXED_INT);
        dueIn(x, 0, Checks.UNFIT, 0, TEXT, BOXED_LONG, 8, BOXED_INT);
        dueIn(x, 0, Checks.UNFIT, 0, TEXT, BOXED_INT, 8);
        dueIn(x, 0, Checks.UNFIT, 0, TEXT, BOXED_INT, 8, BOXED_INT, BOXED_INT);
        dueIn(x, 0, Checks.UNFIT, 0, TEXT, NULL, 8, BOXED_INT);
    }

    private static void phaseThree() {
        Checks.sentence("PHASE 3: of those with a variable one",
                CallEdgesTest::noFixedOneInPhaseThree);
        Checks.sentence("values for all ahead of it", CallEdgesTest::valuesForAllAhead);
        Checks.sentence("as in phase 2", CallEdgesTest::aheadAsInPhaseTwo);
        Checks.sentence("all others to its type likewise", CallEdgesTest::allOthersToItsType);
    }

    private static void noFixedOneInPhaseThree() {
        MemberChooser x = Made.withClass();
        Checks.fixed(x, 8, 0, TEXT);
        dueIn(x, 0, Checks.UNFIT, 0);
        dueIn(x, 0, Checks.UNFIT, 0, TEXT, TEXT);
        // Were the fixed one taken in, the call would be ambiguous or its own.
        Checks.variable(x, 8, 0, TEXT, ANY);
        dueIn(x, 3, 1, 0, TEXT, TEXT);
        dueIn(x, 1, 0, 0, TEXT);
        Checks.fixed(x, 8, 1);
        Checks.variable(x, 8, 1, TEXT);
        dueIn(x, 1, 2, 1);
        dueIn(x, 3, 3, 1, TEXT);
    }

    private static void valuesForAllAhead() {
        MemberChooser x = Made.withClass();
        for (int n = 1; n <= 4; n++) {
            Checks.variable(x, 8, n, times(n, TEXT));
            for (int many = 0; many <= 6; many++) {
                boolean fits = many >= n - 1;
                dueIn(x, fits ? 3 : 0, fits ? n - 1 : Checks.UNFIT, n, times(many, TEXT));
            }
        }
    }

    private static void aheadAsInPhaseTwo() {
        MemberChooser x = Made.withClass();
        Checks.variable(x, 8, 0, INT, ANY, LONG, TEXT);
        dueIn(x, 3, 0, 0, BOXED_INT, NULL, BOXED_INT);
        dueIn(x, 3, 0, 0, BOXED_INT, 8, BOXED_LONG, TEXT, NULL, TEXT);
        dueIn(x, 0, Checks.UNFIT, 0, BOXED_LONG, NULL, BOXED_INT);
        dueIn(x, 0, Checks.UNFIT, 0, NULL, NULL, BOXED_INT);
        dueIn(x, 0, Checks.UNFIT, 0, BOXED_INT, NULL, BOXED_BOOL);
        dueIn(x, 0, Checks.UNFIT, 0, TEXT, NULL, BOXED_INT);
        for (int primitive = 0; primitive <= 2; primitive++) {
            int member = Checks.variable(x, 8, 1 + primitive, primitive, ANY);
            for (int value : VALUES) {
                boolean fits = unboxes(value, primitive);
                dueIn(x, fits ? 3 : 0, fits ? member : Checks.UNFIT, 1 + primitive, value);
            }
        }
    }

    private static void allOthersToItsType() {
        MemberChooser x = Made.withClass();
        Checks.variable(x, 8, 0, TEXT, LONG);
        int[] values = {TEXT, BOXED_INT, BOXED_LONG, BOXED_INT, BOXED_LONG, BOXED_INT};
        for (int many = 1; many <= 6; many++) {
            dueIn(x, 3, 0, 0, Arrays.copyOf(values, many));
        }
        for (int place = 1; place < 6; place++) {
            for (int wrong : new int[] {TEXT, BOXED_BOOL, NULL, ANY, 8}) {
                int[] row = values.clone();
                row[place] = wrong;
                dueIn(x, 0, Checks.UNFIT, 0, row);
            }
        }
        Checks.variable(x, 8, 1, 8);
        dueIn(x, 3, 1, 1, NULL, 8, NULL, 8, 8, NULL);
        for (int place = 0; place < 6; place++) {
            int[] row = times(6, 8);
            row[place] = TEXT;
            dueIn(x, 0, Checks.UNFIT, 1, row);
        }
    }

    private static void theOneThatIsMeant() {
        Checks.sentence("The first phase in which some fit", CallEdgesTest::theFirstPhase);
        Checks.sentence("MORE SPECIFIC than each other one", CallEdgesTest::thanEachOtherOne);
        Checks.sentence("each of its parameters a subtype of the other's",
                CallEdgesTest::eachOfItsParameters);
        Checks.sentence("in phase 3 for the first k, k being the greater number of parameters",
                CallEdgesTest::theGreaterNumber);
        Checks.sentence("the variable one standing for all that are wanting",
                CallEdgesTest::standingForAllWanting);
        Checks.sentence("Is it a single one, it is meant", CallEdgesTest::aSingleOne);
        Checks.sentence("several .. such: the call is AMBIGUOUS", CallEdgesTest::severalSuch);
        Checks.sentence("none such: the call is AMBIGUOUS", CallEdgesTest::noneSuch);
        Checks.sentence("Does none fit in any phase, it is UNFIT.", CallEdgesTest::noneFits);
    }

    private static void theFirstPhase() {
        MemberChooser x = Made.withClass();
        Checks.variable(x, 8, 0, BOXED_INT);
        dueIn(x, 3, 0, 0, BOXED_INT);
        Checks.fixed(x, 8, 0, LONG);
        dueIn(x, 2, 1, 0, BOXED_INT);
        Checks.fixed(x, 8, 0, INT);
        dueIn(x, 2, 2, 0, BOXED_INT);
        Checks.fixed(x, 8, 0, ANY);
        dueIn(x, 1, 3, 0, BOXED_INT);
        // What is ambiguous in the first phase is not sought for in a later one.
        Checks.fixed(x, 8, 1, TEXT, ANY);
        Checks.fixed(x, 8, 1, ANY, TEXT);
        Checks.variable(x, 8, 1, TEXT);
        dueIn(x, 1, Checks.AMBIGUOUS, 1, TEXT, TEXT);
        Checks.fixed(x, 8, 2, INT, LONG);
        Checks.fixed(x, 8, 2, LONG, INT);
        Checks.variable(x, 8, 2, BOXED_INT);
        dueIn(x, 2, Checks.AMBIGUOUS, 2, BOXED_INT, BOXED_INT);
    }

    /** A chain of 24 classes, and a member for each: the lowest one that fits. */
    private static void thanEachOtherOne() {
        MemberChooser x = Made.classChain(24);
        for (int type = 8; type <= 31; type++) {
            Checks.fixed(x, 8, 0, type);
            Checks.variable(x, 8, 1, type);
        }
        for (int type = 8; type <= 31; type++) {
            Checks.dueCall(x, 2 * (type - 8), 8, 0, type);
            Checks.dueCall(x, 2 * (type - 8) + 1, 8, 1, type);
        }
        Checks.dueCall(x, 46, 8, 0, NULL);
        // More specific than one of the two others only, wherever it was told.
        for (int place = 0; place < 3; place++) {
            MemberChooser three = Made.classChain(2);
            int[] types = {8, 9, TEXT};
            for (int i = 0; i < 3; i++) {
                Checks.fixed(three, 8, 0, types[(i + place) % 3]);
            }
            Checks.dueCall(three, Checks.AMBIGUOUS, 8, 0, NULL);
            Checks.dueCall(three, (4 - place) % 3, 8, 0, 9);
        }
    }

    private static void eachOfItsParameters() {
        for (int place = 0; place < 4; place++) {
            MemberChooser x = Made.withClass();
            int[] lower = times(4, TEXT);
            int[] upper = times(4, TEXT);
            upper[place] = ANY;
            Checks.fixed(x, 8, 0, upper);
            Checks.fixed(x, 8, 0, lower);
            dueIn(x, 1, 1, 0, lower);
            // Lower in one place and higher in another one: neither is.
            int[] across = times(4, TEXT);
            across[(place + 1) % 4] = ANY;
            Checks.fixed(x, 8, 1, upper);
            Checks.fixed(x, 8, 1, across);
            dueIn(x, 1, Checks.AMBIGUOUS, 1, lower);
        }
        MemberChooser x = Made.withClass();
        Checks.fixed(x, 8, 0, LONG);
        Checks.fixed(x, 8, 0, INT);
        dueIn(x, 2, 1, 0, BOXED_INT);
        // A primitive and a boxed one are no subtypes of one another, nor is int of Any.
        Checks.fixed(x, 8, 1, INT, INT);
        Checks.fixed(x, 8, 1, INT, BOXED_INT);
        dueIn(x, 2, Checks.AMBIGUOUS, 1, BOXED_INT, BOXED_INT);
        Checks.fixed(x, 8, 2, INT, INT);
        Checks.fixed(x, 8, 2, INT, ANY);
        dueIn(x, 2, Checks.AMBIGUOUS, 2, BOXED_INT, BOXED_INT);
    }

    private static void theGreaterNumber() {
        MemberChooser x = Made.withClass();
        // With fewer values than k: what stands behind them chooses.
        Checks.variable(x, 8, 0, TEXT);
        Checks.variable(x, 8, 0, TEXT, ANY);
        dueIn(x, 3, 0, 0, TEXT);
        Checks.variable(x, 8, 1, ANY, ANY);
        Checks.variable(x, 8, 1, ANY, TEXT);
        dueIn(x, 3, 3, 1, 8);
        Checks.variable(x, 8, 2, TEXT, TEXT, TEXT);
        Checks.variable(x, 8, 2, TEXT, TEXT, TEXT, ANY);
        dueIn(x, 3, 4, 2, TEXT, TEXT, TEXT);
        Checks.variable(x, 8, 3, TEXT, ANY);
        Checks.variable(x, 8, 3, ANY, TEXT, TEXT);
        dueIn(x, 3, Checks.AMBIGUOUS, 3, TEXT, TEXT);
        // With no value at all.
        Checks.variable(x, 8, 4, ANY);
        Checks.variable(x, 8, 4, TEXT);
        dueIn(x, 3, 9, 4);
        // The greater number of both, whichever of them has it: the one told first or last, the
        // one that is more specific or the other one.
        Checks.variable(x, 8, 5, TEXT, ANY);
        Checks.variable(x, 8, 5, TEXT);
        dueIn(x, 3, 11, 5, TEXT);
        Checks.variable(x, 8, 6, ANY, TEXT);
        Checks.variable(x, 8, 6, ANY);
        dueIn(x, 3, 12, 6, 8);
        Checks.variable(x, 8, 7, ANY);
        Checks.variable(x, 8, 7, ANY, ANY, TEXT);
        dueIn(x, 3, 15, 7, 8, 8);
    }

    private static void standingForAllWanting() {
        for (int n = 2; n <= 4; n++) {
            MemberChooser x = Made.withClass();
            int[] texts = times(n, TEXT);
            int[] endsInAny = texts.clone();
            endsInAny[n - 1] = ANY;
            Checks.variable(x, 8, 0, TEXT);
            Checks.variable(x, 8, 0, endsInAny);
            dueIn(x, 3, 0, 0, texts);
            Checks.variable(x, 8, 1, ANY);
            Checks.variable(x, 8, 1, texts);
            dueIn(x, 3, 3, 1, texts);
            int[] beginsWithAny = texts.clone();
            beginsWithAny[0] = ANY;
            Checks.variable(x, 8, 2, TEXT);
            Checks.variable(x, 8, 2, beginsWithAny);
            dueIn(x, 3, 4, 2, texts);
            Checks.variable(x, 8, 3, TEXT);
            Checks.variable(x, 8, 3, texts);
            dueIn(x, 3, Checks.AMBIGUOUS, 3, texts);
            Checks.variable(x, 8, 4, LONG);
            Checks.variable(x, 8, 4, times(n, INT));
            dueIn(x, 3, 9, 4, times(6, BOXED_INT));
        }
        // The last one stands for them, none of those ahead of it: both are the same for ever.
        MemberChooser x = Made.withClass();
        Checks.variable(x, 8, 0, ANY, TEXT);
        Checks.variable(x, 8, 0, ANY, TEXT, TEXT, TEXT);
        dueIn(x, 3, Checks.AMBIGUOUS, 0, TEXT, TEXT, TEXT);
        dueIn(x, 3, Checks.AMBIGUOUS, 0, TEXT, TEXT, TEXT, TEXT);
        Checks.variable(x, 8, 1, TEXT, ANY);
        Checks.variable(x, 8, 1, ANY, ANY, TEXT);
        dueIn(x, 3, Checks.AMBIGUOUS, 1, TEXT, TEXT, TEXT);
    }

    private static void aSingleOne() {
        MemberChooser x = Made.withClass();
        Checks.fixed(x, 8, 0);
        dueIn(x, 1, 0, 0);
        Checks.fixed(x, 8, 1, INT);
        dueIn(x, 2, 1, 1, BOXED_INT);
        Checks.variable(x, 8, 2, TEXT);
        dueIn(x, 3, 2, 2);
        // The single one of 77 that fit.
        MemberChooser many = Made.classChain(24);
        for (int i = 0; i < 77; i++) {
            Checks.fixed(many, 8, 0, 8 + i / 4, 8 + i % 4);
        }
        Checks.dueCall(many, 76, 8, 0, 27, 8);
        Checks.dueCall(many, 75, 8, 0, 26, 11);
        Checks.dueCall(many, Checks.AMBIGUOUS, 8, 0, 31, 31);
    }

    private static void severalSuch() {
        MemberChooser x = Made.withClass();
        for (int n = 1; n <= 4; n++) {
            Checks.variable(x, 8, 0, times(n, TEXT));
        }
        dueIn(x, 3, 0, 0);
        for (int many = 1; many <= 6; many++) {
            dueIn(x, 3, Checks.AMBIGUOUS, 0, times(many, TEXT));
        }
        // One that is lower than several such is the single one again.
        Checks.variable(x, 8, 1, ANY);
        Checks.variable(x, 8, 1, ANY, ANY);
        dueIn(x, 3, Checks.AMBIGUOUS, 1, TEXT, TEXT);
        Checks.variable(x, 8, 1, TEXT, TEXT);
        dueIn(x, 3, 6, 1, TEXT, TEXT);
        dueIn(x, 3, Checks.AMBIGUOUS, 1, 8, 8);
    }

    private static void noneSuch() {
        MemberChooser x = Made.classBelowFaces(2);
        Checks.fixed(x, 8, 0, 9);
        Checks.fixed(x, 8, 0, 10);
        dueIn(x, 1, Checks.AMBIGUOUS, 0, 8);
        dueIn(x, 1, Checks.AMBIGUOUS, 0, NULL);
        Checks.variable(x, 8, 1, 9);
        Checks.variable(x, 8, 1, 10);
        dueIn(x, 3, Checks.AMBIGUOUS, 1, 8);
        dueIn(x, 3, Checks.AMBIGUOUS, 1);
        Checks.variable(x, 8, 2, INT);
        Checks.variable(x, 8, 2, BOOL);
        dueIn(x, 3, Checks.AMBIGUOUS, 2);
        dueIn(x, 3, 4, 2, BOXED_INT);
        Checks.fixed(x, 8, 3, BOXED_INT, INT);
        Checks.fixed(x, 8, 3, INT, BOXED_INT);
        dueIn(x, 2, Checks.AMBIGUOUS, 3, BOXED_INT, BOXED_INT);
    }

    private static void noneFits() {
        MemberChooser x = Made.classes(2);
        dueIn(x, 0, Checks.UNFIT, 0);
        dueIn(x, 0, Checks.UNFIT, 9, TEXT, TEXT, TEXT, TEXT, TEXT, TEXT);
        Checks.fixed(x, 8, 0, TEXT);
        Checks.fixed(x, 8, 0, INT, INT);
        Checks.variable(x, 8, 0, BOXED_INT, INT);
        dueIn(x, 0, Checks.UNFIT, 0);
        dueIn(x, 0, Checks.UNFIT, 0, ANY);
        dueIn(x, 0, Checks.UNFIT, 0, TEXT, TEXT);
        dueIn(x, 0, Checks.UNFIT, 0, BOXED_INT, BOXED_INT, TEXT);
        // Members of other names or of types beside do not fit.
        Checks.fixed(x, 8, 1);
        Checks.fixed(x, 9, 0);
        x.join(8, x.face());
        dueIn(x, 0, Checks.UNFIT, 0);
    }

    private static void promiseEight() {
        Checks.sentence("call: the n lowest bytes of classes, the first one the lowest",
                CallEdgesTest::lowestBytes);
        Checks.sentence("call: 255 null", CallEdgesTest::twoHundredAndFiftyFive);
        Checks.sentence("call: IllegalArgumentException if there is no such type",
                CallEdgesTest::noType);
        Checks.sentence("call: IllegalArgumentException if there is no such name",
                CallEdgesTest::noName);
        Checks.sentence("call: IllegalArgumentException if there is no such n",
                CallEdgesTest::noSize);
        Checks.sentence("call: IllegalArgumentException if there is no such class",
                CallEdgesTest::noClass);
        Checks.sentence("call: ArithmeticException if it is AMBIGUOUS; "
                + "NoSuchElementException if it is UNFIT.", CallEdgesTest::bothThrows);
    }

    private static void lowestBytes() {
        MemberChooser x = Made.classes(2);
        Checks.fixed(x, 8, 0, TEXT, ANY, 8, 9);
        Checks.variable(x, 8, 1, ANY);
        Checks.due(0, "call in order", () -> x.call(8, 0, 4, 0x09080706L));
        Checks.due(Checks.UNFIT, "call turned", () -> x.call(8, 0, 4, 0x06070809L));
        // Bytes beyond are no values, be they classes or not, up to the long's sign.
        for (int n = 0; n <= 6; n++) {
            int many = n;
            long low = Checks.row(times(n, TEXT));
            long beyond = -1L << (8 * n);
            long primitives = beyond & 0x0101010101010101L;
            Checks.due(1, "call of " + n, () -> x.call(8, 1, many, low));
            Checks.due(1, "call of " + n + " and nulls", () -> x.call(8, 1, many, low | beyond));
            Checks.due(1, "call of " + n + " and longs",
                    () -> x.call(8, 1, many, low | primitives));
            // It is the same call all three times.
            Checks.dueCount(x, 3 + n, 3);
            Checks.dueCount(x, 2 + 2 * n, 4);
        }
        Checks.due(1, "call of the lowest number", () -> x.call(8, 1, 0, Long.MIN_VALUE));
    }

    private static void twoHundredAndFiftyFive() {
        MemberChooser x = Made.withClass();
        Checks.fixed(x, 8, 0, 8);
        Checks.variable(x, 8, 1, 8);
        dueIn(x, 1, 0, 0, NULL);
        Checks.due(1, "call of six nulls", () -> x.call(8, 1, 6, -1L));
        Checks.due(1, "call of six nulls and no more",
                () -> x.call(8, 1, 6, 0xFFFFFFFFFFFFL));
        Checks.dueCount(x, 1, 4);
        Checks.dueCall(x, Checks.IAE, 8, 0, 254);
        Checks.dueCall(x, Checks.IAE, 8, 0, 127);
        Checks.dueCall(x, Checks.IAE, 8, 0, 128);
    }

    private static void noType() {
        MemberChooser x = Made.withClass();
        x.face();
        Checks.fixed(x, 8, 0);
        for (int none : new int[] {-1, -2, -248, 0, 1, 2, 3, 4, 5, 6, 7, 10, 31, 32, 33, 255, 256,
            264, Integer.MIN_VALUE, Integer.MIN_VALUE + 8, Integer.MAX_VALUE}) {
            Checks.dueCall(x, Checks.IAE, none, 0);
        }
        Checks.dueCount(x, 0, 3);
        Checks.dueCall(x, 0, 8, 0);
        Checks.dueCall(x, Checks.UNFIT, 9, 0);
    }

    private static void noName() {
        MemberChooser x = Made.withClass();
        for (int none : new int[] {-1, -2, 10, 11, 256, 265, Integer.MIN_VALUE,
            Integer.MAX_VALUE}) {
            Checks.dueCall(x, Checks.IAE, 8, none);
        }
        Checks.dueCount(x, 0, 3);
        Checks.dueCall(x, Checks.UNFIT, 8, 0);
        Checks.dueCall(x, Checks.UNFIT, 8, 9);
    }

    private static void noSize() {
        MemberChooser x = Made.withClass();
        Checks.variable(x, 8, 0, ANY);
        for (int none : new int[] {-1, -2, -6, 7, 8, 9, 32, 64, 65, 256, 262, Integer.MIN_VALUE,
            Integer.MIN_VALUE + 1, Integer.MAX_VALUE}) {
            Checks.due(Checks.IAE, "call(8, 0, " + none + ", -1)",
                    () -> x.call(8, 0, none, -1L));
        }
        Checks.dueCount(x, 0, 3);
        Checks.due(0, "call(8, 0, 0, -1)", () -> x.call(8, 0, 0, -1L));
        Checks.due(0, "call(8, 0, 6, -1)", () -> x.call(8, 0, 6, -1L));
    }

    private static void noClass() {
        MemberChooser x = Made.withClass();
        x.face();
        Checks.variable(x, 8, 0, ANY);
        for (int none : new int[] {0, 1, 2, 10, 11, 31, 32, 127, 128, 254}) {
            for (int place = 0; place < 6; place++) {
                int[] row = {3, 7, 8, 9, NULL, 6};
                row[place] = none;
                Checks.dueCall(x, Checks.IAE, 8, 0, row);
                Checks.dueCall(x, Checks.IAE, 8, 0, Arrays.copyOf(row, place + 1));
                // One place ahead of it, it is no matter.
                int many = place;
                Checks.due(0, "call(8, 0, " + place + ", ..)",
                        () -> x.call(8, 0, many, Checks.row(row)));
            }
        }
        Checks.dueCount(x, 6, 3);
        x.face();
        Checks.dueCall(x, 0, 8, 0, 10);
    }

    private static void bothThrows() {
        MemberChooser x = Made.withClass();
        Checks.fixed(x, 8, 0, TEXT);
        Checks.fixed(x, 8, 0, 8);
        // The first time it is worked out, the next time it was kept: the same.
        for (int time = 0; time < 3; time++) {
            Checks.dueCall(x, Checks.AMBIGUOUS, 8, 0, NULL);
            Checks.dueCall(x, Checks.UNFIT, 8, 0, ANY);
        }
        Checks.dueCount(x, 2, 3);
        Checks.dueCount(x, 4, 4);
    }
}
