import java.util.ArrayList;
import java.util.List;
import java.util.function.Supplier;

/**
 * All that can be asked of an object, line by line. An object answers for 512 calls alone, so each
 * part is asked of one made anew.
 */
final class Snapshot {
    private final Supplier<MemberChooser> made;
    private final List<String> lines = new ArrayList<>();

    private Snapshot(Supplier<MemberChooser> made) {
        this.made = made;
    }

    /** What is told of types and members, which no call may change. */
    static List<String> ofTold(Supplier<MemberChooser> made) {
        Snapshot shot = new Snapshot(made);
        shot.addTypes();
        shot.addSubtypes();
        shot.addMembers();
        shot.addMeant();
        return shot.lines;
    }

    /** What is counted, and which of the calls are kept, in which order. */
    static List<String> ofKept(Supplier<MemberChooser> made, int[][] calls) {
        Snapshot shot = new Snapshot(made);
        shot.addCounts();
        shot.addCalls(calls);
        shot.addCallsBehindANewOne(calls);
        return shot.lines;
    }

    /** Only the first line that is another one is told: one change shows in many. */
    static void dueSame(List<String> want, List<String> got) {
        int i = 0;
        while (i < want.size() && i < got.size() && want.get(i).equals(got.get(i))) {
            i++;
        }
        String due = i < want.size() ? want.get(i) : "the end";
        String found = i < got.size() ? got.get(i) : "the end";
        Checks.due(due, "the object behind it", () -> found);
    }

    private void add(String what, Checks.Call call) {
        lines.add(what + " " + Checks.answerOf(call));
    }

    private void addCounts() {
        MemberChooser x = made.get();
        for (int what = 0; what <= 5; what++) {
            int asked = what;
            add("count " + what, () -> x.count(asked));
        }
    }

    private void addTypes() {
        MemberChooser x = made.get();
        add("types", () -> x.count(0));
        add("members", () -> x.count(1));
        for (int i = 0; i < 100; i++) {
            int type = 8 + i / 4;
            int what = i % 4;
            add("above " + type + " " + what, () -> x.above(type, what));
        }
    }

    private void addSubtypes() {
        for (int first = 8; first < 32; first += 8) {
            MemberChooser x = made.get();
            for (int i = 0; i < 8 * 24; i++) {
                int type = first + i / 24;
                int of = 8 + i % 24;
                add("subtype " + type + " " + of, () -> x.subtype(type, of));
            }
        }
    }

    private void addMembers() {
        for (int first = 0; first < 81; first += 27) {
            MemberChooser x = made.get();
            for (int i = 0; i < 27 * 8; i++) {
                int member = first + i / 8;
                int what = i % 8;
                add("look " + member + " " + what, () -> x.look(member, what));
            }
        }
    }

    private void addMeant() {
        for (int type = 8; type < 32; type++) {
            MemberChooser x = made.get();
            int at = type;
            for (int name = 0; name < 10; name++) {
                int asked = name;
                for (int i = 0; i < 12; i++) {
                    int place = i;
                    add("meant " + type + " " + name + " " + i, () -> x.meant(at, asked, place));
                }
            }
        }
    }

    private void addCalls(int[][] calls) {
        MemberChooser x = made.get();
        for (int[] call : calls) {
            add("call", () -> x.call(call[0], call[1], call[2], call[3]));
            add("found", () -> x.count(4));
        }
    }

    /** The first one of a full hundred goes for the new one, the next one for it, and so on. */
    private void addCallsBehindANewOne(int[][] calls) {
        MemberChooser x = made.get();
        add("new call", () -> x.call(8, 9, 6, -1L));
        for (int i = calls.length - 1; i >= 0; i--) {
            int[] call = calls[i];
            add("call", () -> x.call(call[0], call[1], call[2], call[3]));
            add("found", () -> x.count(4));
        }
    }
}
