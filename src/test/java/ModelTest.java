/** All promises: runs of up to 512 calls, each answered as the model answers it. */
public final class ModelTest {
    private static final int RUNS = 600;
    private static final int MOST_CALLS = 512;

    private final MemberChooser real = new MemberChooser();
    private final Model model = new Model();
    private long seed;
    private int names;
    private int kinds;
    private int members;
    private int wide;
    private int made = 0;

    private ModelTest(int run) {
        seed = run * 7919L + 17L;
        names = 1 + upTo(4);
        kinds = 2 + upTo(23);
        members = 5 + upTo(76);
        wide = 1 + upTo(4);
    }

    public static void main(String[] args) {
        for (int run = 0; run < RUNS; run++) {
            ModelTest test = new ModelTest(run);
            // A step makes two calls at most.
            for (int step = 0; step < MOST_CALLS && test.made + 2 <= MOST_CALLS; step++) {
                test.step("run " + run + ", call " + test.made + ": ");
            }
        }
        Checks.end();
    }

    /** A fixed row of numbers below bound, the same in each run of this test. */
    private int upTo(int bound) {
        seed = seed * 6364136223846793005L + 1442695040888963407L;
        return (int) ((seed >>> 33) % bound);
    }

    private boolean seldom() {
        return upTo(40) == 0;
    }

    private int type() {
        if (seldom()) {
            return upTo(260) - 2;
        }
        return 8 + upTo(Math.max(1, model.count(0)));
    }

    private int name() {
        return seldom() ? upTo(14) - 2 : upTo(names);
    }

    private int parameter() {
        if (seldom()) {
            return upTo(256);
        }
        return upTo(3) == 0 ? 8 + upTo(Math.max(1, model.count(0))) : upTo(8);
    }

    private int value() {
        int kind = upTo(8);
        if (seldom()) {
            return upTo(256);
        }
        if (kind == 0) {
            return 255;
        }
        return kind < 4 ? 8 + upTo(Math.max(1, model.count(0))) : 3 + upTo(5);
    }

    private int some(int most) {
        return seldom() ? upTo(12) - 2 : upTo(Math.min(most, wide) + 1);
    }

    private long rowOf(boolean values) {
        long row = 0;
        for (int i = 0; i < 8; i++) {
            row = (row << 8) | (values ? value() : parameter());
        }
        return row;
    }

    private void same(String told, Checks.Call got, Checks.Call want) {
        made++;
        Checks.due(Checks.answerOf(want), told, got);
    }

    private void step(String at) {
        int kind = upTo(100);
        if (kind < 12) {
            tellType(at);
        } else if (kind < 20) {
            int type = type();
            int face = type();
            if (model.count(3) < 30 || upTo(10) == 0) {
                same(at + "join(" + type + ", " + face + ")", () -> real.join(type, face),
                        () -> model.join(type, face));
            }
        } else if (kind < 42) {
            tellMember(at);
        } else if (kind < 76) {
            makeCall(at);
        } else {
            ask(at, kind);
        }
    }

    private void tellType(String at) {
        if (model.count(0) >= kinds && !seldom()) {
            return;
        }
        if (upTo(2) == 0) {
            same(at + "face()", real::face, model::face);
        } else {
            int above = upTo(3) == 0 ? -1 : type();
            same(at + "type(" + above + ")", () -> real.type(above), () -> model.type(above));
        }
    }

    private void tellMember(String at) {
        if (model.count(1) >= members && !seldom()) {
            return;
        }
        int owner = type();
        int name = name();
        int n = some(4);
        long row = rowOf(false);
        boolean variable = upTo(3) == 0;
        same(at + "member(" + owner + ", " + name + ", " + n + ", " + row + ", " + variable + ")",
                () -> real.member(owner, name, n, row, variable),
                () -> model.member(owner, name, n, row, variable));
    }

    private void makeCall(String at) {
        int type = type();
        int name = name();
        int n = some(6);
        long row = rowOf(true);
        same(at + "call(" + type + ", " + name + ", " + n + ", " + row + ")",
                () -> real.call(type, name, n, row), () -> model.call(type, name, n, row));
        // Asked at once again it is kept, asked later perhaps no more.
        if (upTo(4) == 0) {
            same(at + "the same call", () -> real.call(type, name, n, row),
                    () -> model.call(type, name, n, row));
        }
    }

    private void ask(String at, int kind) {
        int type = seldom() ? upTo(9) - 1 : type();
        int other = upTo(2) == 0 ? upTo(9) - 1 : type();
        int name = name();
        int i = upTo(12) - 1;
        int member = upTo(Math.max(1, model.count(1)) + 2) - 1;
        if (kind < 81) {
            same(at + "subtype(" + type + ", " + other + ")", () -> real.subtype(type, other),
                    () -> model.subtype(type, other));
        } else if (kind < 88) {
            same(at + "meant(" + type + ", " + name + ", " + i + ")",
                    () -> real.meant(type, name, i), () -> model.meant(type, name, i));
        } else if (kind < 91) {
            same(at + "look(" + member + ", " + i + ")", () -> real.look(member, i),
                    () -> model.look(member, i));
        } else if (kind < 94) {
            same(at + "above(" + type + ", " + i + ")", () -> real.above(type, i),
                    () -> model.above(type, i));
        } else {
            int what = upTo(8) - 1;
            same(at + "count(" + what + ")", () -> real.count(what), () -> model.count(what));
        }
    }
}
