/** Each sentence on what is KEPT and counted that names an edge: What it is, Terms, promise 11. */
public final class KeptEdgesTest {
    public static void main(String[] args) {
        Checks.sentence("An object is used for at most 512 calls after it has been made",
                KeptEdgesTest::fiveHundredAndTwelveCalls);
        Checks.sentence("Choices are kept as long as nothing is told that could change them.",
                KeptEdgesTest::keptAsLongAsNothingIsTold);
        kept();
        counts();
        Checks.end();
    }

    /** The object, how many calls KEPT, worked out, and kept already when they came. */
    private static void dueCounts(MemberChooser x, int kept, int workedOut, int found) {
        Checks.dueCount(x, kept, 2);
        Checks.dueCount(x, workedOut, 3);
        Checks.dueCount(x, found, 4);
    }

    /** Ten classes, 8 to 17, and member 0 of the first, which takes all by name 0. */
    private static MemberChooser withTakesAll() {
        MemberChooser x = Made.classes(10);
        Checks.variable(x, 8, 0, Checks.ANY);
        return x;
    }

    /** The call that bears a number 0 .. 999; no two of them are the same one. */
    private static void dueKind(MemberChooser x, int kind) {
        Checks.dueCall(x, 0, 8, 0, 8 + kind % 10, 8 + kind / 10 % 10, 8 + kind / 100);
    }

    private static void dueKinds(MemberChooser x, int from, int to) {
        for (int kind = from; kind < to; kind++) {
            dueKind(x, kind);
        }
    }

    private static void fiveHundredAndTwelveCalls() {
        // 11 calls make it, 500 are worked out, the 512th tells of all.
        MemberChooser workedOut = withTakesAll();
        dueKinds(workedOut, 0, 500);
        Checks.dueCount(workedOut, 500, 3);
        MemberChooser found = withTakesAll();
        dueKind(found, 0);
        for (int i = 0; i < 499; i++) {
            dueKind(found, 0);
        }
        Checks.dueCount(found, 499, 4);
        // Refused calls are calls too, and the 512th is answered as the first one.
        MemberChooser refused = Made.withClass();
        for (int i = 0; i < 510; i++) {
            Checks.dueType(refused, Checks.IAE, 9 + i);
        }
        Checks.dueType(refused, 9, 8);
    }

    private static void keptAsLongAsNothingIsTold() {
        MemberChooser x = withTakesAll();
        dueKinds(x, 0, 100);
        // New types, members of other names, and all that asks or is refused.
        x.type(8);
        x.face();
        x.join(8, 9);
        x.join(19, 19);
        Checks.fixed(x, 8, 1);
        Checks.dueMember(x, Checks.ISE, 8, 0, 1, Checks.ANY, false);
        Checks.dueMember(x, Checks.IAE, 8, 0, 0, 0L, true);
        Checks.dueMeant(x, 8, 0, 0);
        Checks.dueSubtype(x, true, 18, 8);
        Checks.dueLook(x, 8, 0, 0);
        Checks.dueAbove(x, 0, 8, 2);
        Checks.dueCall(x, Checks.IAE, 8, 0, 0);
        dueCounts(x, 100, 100, 0);
        dueKinds(x, 0, 100);
        dueCounts(x, 100, 100, 100);
    }

    private static void kept() {
        Checks.sentence("KEPT is what came of a call (a type, a name, the values' classes)",
                KeptEdgesTest::whatMakesTheSameCall);
        Checks.sentence("also AMBIGUOUS, UNFIT", KeptEdgesTest::whatThrowsToo);
        Checks.sentence("100 at most", KeptEdgesTest::hundredAtMost);
        Checks.sentence("the 101st lets the one go that was kept first",
                KeptEdgesTest::theHundredAndFirst);
        Checks.sentence("the one .. that was kept first: not the one asked for last",
                KeptEdgesTest::askedAgainButFirst);
        Checks.sentence("the one .. that was kept first: of those that are left",
                KeptEdgesTest::firstOfThoseLeft);
        Checks.sentence("Telling a member lets go those with its name",
                KeptEdgesTest::memberLetsGoItsName);
        Checks.sentence("at whatever type", KeptEdgesTest::atWhateverType);
        Checks.sentence("a face above a type all", KeptEdgesTest::faceLetsGoAll);
    }

    private static void whatMakesTheSameCall() {
        MemberChooser x = Made.classChain(2);
        Checks.variable(x, 8, 0, Checks.ANY);
        Checks.variable(x, 8, 9, Checks.ANY);
        int[][] rows = {{}, {255}, {6}, {6, 6}, {6, 7}, {7, 6}, {6, 6, 6}, {6, 6, 6, 6, 6, 6},
            {6, 6, 6, 6, 6, 7}, {6, 6, 6, 6, 6, 255}, {255, 255, 255, 255, 255, 255}};
        for (int time = 0; time < 2; time++) {
            for (int[] row : rows) {
                Checks.dueCall(x, 0, 8, 0, row);
                Checks.dueCall(x, 0, 9, 0, row);
                Checks.dueCall(x, 1, 8, 9, row);
                Checks.dueCall(x, 1, 9, 9, row);
            }
            dueCounts(x, 44, 44, 44 * time);
        }
    }

    private static void whatThrowsToo() {
        MemberChooser x = Made.withClass();
        Checks.fixed(x, 8, 0, Checks.TEXT);
        Checks.fixed(x, 8, 0, 8);
        Checks.dueCall(x, Checks.AMBIGUOUS, 8, 0, Checks.NULL);
        dueCounts(x, 1, 1, 0);
        Checks.dueCall(x, Checks.UNFIT, 8, 0);
        dueCounts(x, 2, 2, 0);
        Checks.dueCall(x, Checks.AMBIGUOUS, 8, 0, Checks.NULL);
        Checks.dueCall(x, Checks.UNFIT, 8, 0);
        dueCounts(x, 2, 2, 2);
        // One that is refused as no call at all is not.
        Checks.dueCall(x, Checks.IAE, 8, 10);
        Checks.dueCall(x, Checks.IAE, 8, 0, 9);
        dueCounts(x, 2, 2, 2);
        // As the hundred of them go, so do they.
        MemberChooser full = withTakesAll();
        Checks.dueCall(full, Checks.UNFIT, 8, 1);
        dueKinds(full, 0, 100);
        dueCounts(full, 100, 101, 0);
        Checks.dueCall(full, Checks.UNFIT, 8, 1);
        dueCounts(full, 100, 102, 0);
    }

    private static void hundredAtMost() {
        MemberChooser x = withTakesAll();
        for (int kind = 0; kind < 120; kind++) {
            Checks.dueCount(x, Math.min(kind, 100), 2);
            dueKind(x, kind);
        }
        Checks.dueCount(x, 100, 2);
        MemberChooser all = withTakesAll();
        dueKinds(all, 0, 100);
        // All hundred are there.
        dueKinds(all, 0, 100);
        dueCounts(all, 100, 100, 100);
    }

    private static void theHundredAndFirst() {
        MemberChooser x = withTakesAll();
        dueKinds(x, 0, 101);
        // The second one is there, and so is the last one; the first one is not.
        dueKind(x, 1);
        dueKind(x, 100);
        dueCounts(x, 100, 101, 2);
        dueKind(x, 0);
        dueCounts(x, 100, 102, 2);
        // That one let the second one go, and no more.
        dueKind(x, 2);
        dueCounts(x, 100, 102, 3);
        dueKind(x, 1);
        dueCounts(x, 100, 103, 3);
        // Round for three times: always just the last hundred.
        MemberChooser round = withTakesAll();
        dueKinds(round, 0, 301);
        dueCounts(round, 100, 301, 0);
        dueKinds(round, 201, 301);
        dueCounts(round, 100, 301, 100);
        dueKind(round, 200);
        dueCounts(round, 100, 302, 100);
    }

    private static void askedAgainButFirst() {
        MemberChooser x = withTakesAll();
        dueKinds(x, 0, 100);
        dueKind(x, 0);
        dueKind(x, 0);
        dueCounts(x, 100, 100, 2);
        dueKind(x, 100);
        dueKind(x, 1);
        dueCounts(x, 100, 101, 3);
        dueKind(x, 0);
        dueCounts(x, 100, 102, 3);
    }

    private static void firstOfThoseLeft() {
        MemberChooser x = withTakesAll();
        Checks.dueCall(x, Checks.UNFIT, 9, 1);
        dueKinds(x, 0, 50);
        Checks.dueCall(x, Checks.UNFIT, 9, 1, Checks.TEXT);
        dueKinds(x, 50, 97);
        Checks.dueCall(x, Checks.UNFIT, 10, 1);
        dueCounts(x, 100, 100, 0);
        Checks.fixed(x, 9, 1);
        dueCounts(x, 97, 100, 0);
        // Three more have room, the fourth one lets the first one go that is left.
        dueKinds(x, 97, 100);
        dueKind(x, 0);
        dueCounts(x, 100, 103, 1);
        dueKind(x, 100);
        dueKinds(x, 1, 101);
        dueCounts(x, 100, 104, 101);
        dueKind(x, 0);
        dueCounts(x, 100, 105, 101);
        // One that was let go by a member and is kept anew is the last one.
        MemberChooser anew = withTakesAll();
        Checks.dueCall(anew, Checks.UNFIT, 9, 1);
        dueKinds(anew, 0, 50);
        Checks.fixed(anew, 10, 1);
        Checks.dueCall(anew, Checks.UNFIT, 9, 1);
        dueKinds(anew, 50, 100);
        dueCounts(anew, 100, 102, 0);
        Checks.dueCall(anew, Checks.UNFIT, 9, 1);
        dueKind(anew, 1);
        dueCounts(anew, 100, 102, 2);
        dueKind(anew, 0);
        dueCounts(anew, 100, 103, 2);
    }

    private static void memberLetsGoItsName() {
        for (int name = 0; name <= 9; name++) {
            MemberChooser x = Made.withClass();
            for (int other = 0; other <= 9; other++) {
                Checks.dueCall(x, Checks.UNFIT, 8, other);
                Checks.dueCall(x, Checks.UNFIT, 8, other, Checks.TEXT);
            }
            Checks.dueCount(x, 20, 2);
            // It takes neither call, but it lets both go.
            Checks.fixed(x, 8, name, Checks.INT);
            Checks.dueCount(x, 18, 2);
            for (int other = 0; other <= 9; other++) {
                Checks.dueCall(x, Checks.UNFIT, 8, other);
                Checks.dueCall(x, Checks.UNFIT, 8, other, Checks.TEXT);
            }
            dueCounts(x, 20, 22, 18);
        }
        // None of its name: none goes; all of its name: none stays.
        MemberChooser x = withTakesAll();
        dueKinds(x, 0, 100);
        Checks.fixed(x, 8, 1);
        Checks.dueCount(x, 100, 2);
        Checks.fixed(x, 8, 0, Checks.INT);
        Checks.dueCount(x, 0, 2);
        // What comes of it may be another one now.
        MemberChooser changed = withTakesAll();
        Checks.dueCall(changed, 0, 8, 0, Checks.TEXT);
        Checks.fixed(changed, 8, 0, Checks.TEXT);
        Checks.dueCall(changed, 1, 8, 0, Checks.TEXT);
        Checks.fixed(changed, 8, 0, Checks.INT);
        Checks.dueCall(changed, 1, 8, 0, Checks.TEXT);
        dueCounts(changed, 1, 3, 0);
    }

    private static void atWhateverType() {
        MemberChooser x = Made.classes(23);
        x.face();
        for (int type = 8; type <= 31; type++) {
            Checks.dueCall(x, Checks.UNFIT, type, 0);
            Checks.dueCall(x, Checks.UNFIT, type, 1);
        }
        Checks.dueCount(x, 48, 2);
        // Of a type that stands beside all others.
        Checks.fixed(x, 31, 0, Checks.INT);
        Checks.dueCount(x, 24, 2);
        Checks.fixed(x, 8, 1, Checks.INT);
        Checks.dueCount(x, 0, 2);
    }

    private static void faceLetsGoAll() {
        MemberChooser x = withTakesAll();
        x.face();
        x.face();
        dueKinds(x, 0, 99);
        Checks.dueCall(x, Checks.UNFIT, 9, 9);
        Checks.dueCount(x, 100, 2);
        // A face that is refused lets none go.
        x.join(18, 18);
        x.join(8, 9);
        x.join(20, 18);
        dueCounts(x, 100, 100, 0);
        // One above a type that no call was made at lets all go, a face's too.
        x.join(17, 18);
        dueCounts(x, 0, 100, 0);
        dueKind(x, 0);
        dueCounts(x, 1, 101, 0);
        x.join(18, 19);
        dueCounts(x, 0, 101, 0);
        dueKind(x, 0);
        x.join(18, 19);
        dueCounts(x, 1, 102, 0);
        // Above it already by another way: told, so that all go.
        x.join(17, 19);
        dueCounts(x, 0, 102, 0);
    }

    private static void counts() {
        Checks.sentence("count: what 0: classes and faces", KeptEdgesTest::countOfTypes);
        Checks.sentence("count: 1: members", KeptEdgesTest::countOfMembers);
        Checks.sentence("count: 2: calls KEPT", KeptEdgesTest::countOfKept);
        Checks.sentence("count: 3: calls that were worked out", KeptEdgesTest::countOfWorkedOut);
        Checks.sentence("count: 4: calls that were kept already when they came",
                KeptEdgesTest::countOfFound);
        Checks.sentence("count: 5: the PHASE .. the latest call that was worked out",
                KeptEdgesTest::countOfPhase);
        Checks.sentence("count: (0 if it was UNFIT, or there was none)",
                KeptEdgesTest::countOfNoPhase);
        Checks.sentence("count: NONE for another what.", KeptEdgesTest::countOfNoWhat);
    }

    private static void countOfTypes() {
        MemberChooser x = new MemberChooser();
        for (int many = 0; many < 24; many++) {
            Checks.dueCount(x, many, 0);
            if (many % 3 == 0) {
                x.type(-1);
            } else {
                x.face();
            }
        }
        Checks.dueCount(x, 24, 0);
        Checks.dueFace(x, Checks.ISE);
        Checks.dueCount(x, 24, 0);
    }

    private static void countOfMembers() {
        MemberChooser x = Made.classes(8);
        for (int many = 0; many < 80; many++) {
            Checks.dueCount(x, many, 1);
            Checks.fixed(x, 8 + many % 8, many / 8);
        }
        Checks.dueCount(x, 80, 1);
        Checks.dueMember(x, Checks.ISE, 8, 0, 1, 0L, false);
        Checks.dueCount(x, 80, 1);
    }

    private static void countOfKept() {
        MemberChooser x = withTakesAll();
        Checks.dueCount(x, 0, 2);
        dueKind(x, 0);
        Checks.dueCount(x, 1, 2);
        dueKind(x, 0);
        Checks.dueCount(x, 1, 2);
        dueKinds(x, 1, 100);
        Checks.dueCount(x, 100, 2);
        dueKind(x, 100);
        Checks.dueCount(x, 100, 2);
        Checks.fixed(x, 9, 0);
        Checks.dueCount(x, 0, 2);
    }

    /** What is let go stays counted, and is counted anew when it comes again. */
    private static void countOfWorkedOut() {
        MemberChooser x = withTakesAll();
        dueKinds(x, 0, 3);
        dueKinds(x, 0, 3);
        Checks.dueCount(x, 3, 3);
        Checks.fixed(x, 9, 0);
        Checks.dueCount(x, 3, 3);
        dueKinds(x, 0, 3);
        Checks.dueCount(x, 6, 3);
        Checks.dueCall(x, Checks.UNFIT, 10, 0);
        Checks.dueCount(x, 7, 3);
        // Asking what is meant works out no call.
        Checks.dueMeant(x, 8, 0, 0);
        Checks.dueCount(x, 7, 3);
        Checks.dueCall(x, Checks.IAE, 8, 0, 0);
        Checks.dueCount(x, 7, 3);
    }

    private static void countOfFound() {
        MemberChooser x = withTakesAll();
        dueKind(x, 0);
        Checks.dueCount(x, 0, 4);
        dueKind(x, 0);
        dueKind(x, 0);
        Checks.dueCount(x, 2, 4);
        Checks.dueCall(x, Checks.UNFIT, 9, 0);
        Checks.dueCount(x, 2, 4);
        Checks.dueCall(x, Checks.UNFIT, 9, 0);
        Checks.dueCount(x, 3, 4);
        Checks.fixed(x, 10, 0);
        dueKind(x, 0);
        Checks.dueCount(x, 3, 4);
        dueKind(x, 0);
        Checks.dueCount(x, 4, 4);
    }

    private static void countOfPhase() {
        MemberChooser x = Made.withClass();
        Checks.fixed(x, 8, 0, Checks.TEXT);
        Checks.fixed(x, 8, 0, Checks.INT);
        Checks.variable(x, 8, 0, Checks.ANY, Checks.ANY);
        Checks.fixed(x, 8, 0, 8);
        Checks.dueCall(x, 0, 8, 0, Checks.TEXT);
        Checks.dueCount(x, 1, 5);
        Checks.dueCall(x, 1, 8, 0, Checks.BOXED_INT);
        Checks.dueCount(x, 2, 5);
        Checks.dueCall(x, 2, 8, 0, Checks.ANY);
        Checks.dueCount(x, 3, 5);
        // One that was kept already is not worked out, and neither is one that is refused.
        Checks.dueCall(x, 0, 8, 0, Checks.TEXT);
        Checks.dueCount(x, 3, 5);
        Checks.dueCall(x, Checks.IAE, 8, 0, 0);
        Checks.dueCount(x, 3, 5);
        Checks.dueMeant(x, 8, 0, 0, 1, 2, 3);
        Checks.dueCount(x, 3, 5);
        // An AMBIGUOUS one came to its end in the phase in which some fit.
        Checks.dueCall(x, Checks.AMBIGUOUS, 8, 0, Checks.NULL);
        Checks.dueCount(x, 1, 5);
        Checks.dueCall(x, 2, 8, 0, Checks.ANY);
        Checks.dueCount(x, 1, 5);
        // Letting go what was kept does not change which one was the latest.
        Checks.fixed(x, 8, 0);
        Checks.dueCount(x, 1, 5);
    }

    private static void countOfNoPhase() {
        MemberChooser x = Made.withClass();
        Checks.dueCount(x, 0, 5);
        Checks.dueCall(x, Checks.IAE, 8, 0, 0);
        Checks.dueCount(x, 0, 5);
        Checks.dueCall(x, Checks.UNFIT, 8, 0);
        Checks.dueCount(x, 0, 5);
        Checks.variable(x, 8, 1, Checks.TEXT);
        Checks.dueCall(x, 0, 8, 1);
        Checks.dueCount(x, 3, 5);
        // Kept already, UNFIT as it was, it leaves the phase of the other one.
        Checks.dueCall(x, Checks.UNFIT, 8, 0);
        Checks.dueCount(x, 3, 5);
        Checks.dueCall(x, Checks.UNFIT, 8, 1, 8);
        Checks.dueCount(x, 0, 5);
    }

    private static void countOfNoWhat() {
        MemberChooser x = withTakesAll();
        dueKind(x, 0);
        for (int what : new int[] {-1, -2, 6, 7, 256, 261, Integer.MIN_VALUE,
            Integer.MIN_VALUE + 1, Integer.MAX_VALUE}) {
            Checks.dueCount(x, -1, what);
        }
    }
}
