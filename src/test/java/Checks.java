/** What all tests share: a call's answer, or its exception's name, beside the one that is due. */
final class Checks {
    static final String IAE = "throws.IllegalArgumentException";
    static final String ISE = "throws.IllegalStateException";
    static final String AMBIGUOUS = "throws.ArithmeticException";
    static final String UNFIT = "throws.NoSuchElementException";

    static final int INT = 0;
    static final int LONG = 1;
    static final int BOOL = 2;
    static final int BOXED_INT = 3;
    static final int BOXED_LONG = 4;
    static final int BOXED_BOOL = 5;
    static final int TEXT = 6;
    static final int ANY = 7;
    static final int NULL = 255;

    interface Call {
        Object answer();
    }

    private static int wrong = 0;
    private static int seen = 0;
    private static String sentence = "";

    private Checks() {
    }

    static void due(Object want, String told, Call call) {
        seen++;
        String got = answerOf(call);
        if (!got.equals(String.valueOf(want))) {
            wrong++;
            System.out.println(sentence + told + " answered " + got + ", due is " + want);
        }
    }

    /** The test of one sentence; one that breaks off or asks for nothing proves nothing. */
    static void sentence(String words, Runnable test) {
        int before = seen;
        sentence = "\"" + words + "\": ";
        due("ran", "the sentence's test", () -> {
            test.run();
            return seen > before + 1 ? "ran" : "asked for nothing";
        });
        sentence = "";
    }

    static String answerOf(Call call) {
        try {
            return String.valueOf(call.answer());
        } catch (RuntimeException e) {
            return "throws." + e.getClass().getSimpleName();
        }
    }

    /** The types as bytes of one number, the first one the lowest. */
    static long row(int... types) {
        long row = 0;
        for (int i = 0; i < types.length; i++) {
            row |= (long) types[i] << (8 * i);
        }
        return row;
    }

    static int fixed(MemberChooser x, int owner, int name, int... types) {
        return x.member(owner, name, types.length, row(types), false);
    }

    static int variable(MemberChooser x, int owner, int name, int... types) {
        return x.member(owner, name, types.length, row(types), true);
    }

    static void dueCall(MemberChooser x, Object want, int type, int name, int... values) {
        String told = "call(" + type + ", " + name + ", " + java.util.Arrays.toString(values) + ")";
        due(want, told, () -> x.call(type, name, values.length, row(values)));
    }

    static void dueType(MemberChooser x, Object want, int above) {
        due(want, "type(" + above + ")", () -> x.type(above));
    }

    static void dueFace(MemberChooser x, Object want) {
        due(want, "face()", x::face);
    }

    static void dueJoin(MemberChooser x, boolean want, int type, int face) {
        due(want, "join(" + type + ", " + face + ")", () -> x.join(type, face));
    }

    static void dueMember(MemberChooser x, Object want, int owner, int name, int n, long types,
            boolean variable) {
        due(want,
                "member(" + owner + ", " + name + ", " + n + ", " + types + ", " + variable + ")",
                () -> x.member(owner, name, n, types, variable));
    }

    static void dueSubtype(MemberChooser x, boolean want, int type, int of) {
        due(want, "subtype(" + type + ", " + of + ")", () -> x.subtype(type, of));
    }

    static void dueLook(MemberChooser x, int want, int member, int what) {
        due(want, "look(" + member + ", " + what + ")", () -> x.look(member, what));
    }

    static void dueAbove(MemberChooser x, int want, int type, int what) {
        due(want, "above(" + type + ", " + what + ")", () -> x.above(type, what));
    }

    static void dueCount(MemberChooser x, int want, int what) {
        due(want, "count(" + what + ")", () -> x.count(what));
    }

    /** All that is meant at a type by a name, up to the first NONE. */
    static void dueMeant(MemberChooser x, int type, int name, int... members) {
        for (int i = 0; i <= members.length; i++) {
            int place = i;
            int want = i < members.length ? members[i] : MemberChooser.NONE;
            due(want, "meant(" + type + ", " + name + ", " + i + ")",
                    () -> x.meant(type, name, place));
        }
    }

    static void end() {
        System.out.println(seen + " answers, " + wrong + " wrong");
        if (wrong != 0) {
            System.exit(1);
        }
    }
}
