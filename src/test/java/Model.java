import java.util.ArrayList;
import java.util.LinkedHashMap;
import java.util.LinkedHashSet;
import java.util.List;
import java.util.Map;
import java.util.NoSuchElementException;
import java.util.Set;

/** The document read a second time, by other means: nothing is worked out ahead or packed. */
final class Model {
    private static final class Kind {
        final int number;
        final boolean face;
        final Kind above;
        final List<Kind> faces = new ArrayList<>();

        Kind(int number, boolean face, Kind above) {
            this.number = number;
            this.face = face;
            this.above = above;
        }
    }

    private record Member(int number, Kind owner, int name, List<Integer> types, boolean variable) {
        int typeFor(int i) {
            return i < types.size() ? types.get(i) : types.get(types.size() - 1);
        }
    }

    private record Asked(int type, int name, List<Integer> values) {
    }

    private final List<Kind> kinds = new ArrayList<>();
    private final List<Member> members = new ArrayList<>();
    private final Map<Asked, String> kept = new LinkedHashMap<>();
    private int workedOut = 0;
    private int found = 0;
    private int phase = 0;

    int type(int above) {
        Kind kind = kind(above);
        if (above != -1 && (kind == null || kind.face)) {
            throw new IllegalArgumentException();
        }
        return tell(false, kind);
    }

    int face() {
        return tell(true, null);
    }

    private int tell(boolean face, Kind above) {
        if (kinds.size() == 24) {
            throw new IllegalStateException();
        }
        kinds.add(new Kind(8 + kinds.size(), face, above));
        return 7 + kinds.size();
    }

    private Kind kind(int type) {
        return type < 8 || type - 8 >= kinds.size() ? null : kinds.get(type - 8);
    }

    private boolean isType(int type) {
        return (type >= 0 && type < 8) || kind(type) != null;
    }

    boolean join(int type, int face) {
        Kind below = kind(type);
        Kind above = kind(face);
        if (below == null || above == null || !above.face || below.faces.contains(above)) {
            return false;
        }
        if (subtype(face, type)) {
            return false;
        }
        below.faces.add(above);
        kept.clear();
        return true;
    }

    boolean subtype(int type, int of) {
        if (!isType(type) || !isType(of)) {
            return false;
        }
        if (type == of || (of == 7 && type > 2) || (type == 0 && of == 1)) {
            return true;
        }
        Kind kind = kind(type);
        if (kind == null) {
            return false;
        }
        boolean is = kind.above != null && subtype(kind.above.number, of);
        for (Kind face : kind.faces) {
            is = is || subtype(face.number, of);
        }
        return is;
    }

    int member(int owner, int name, int n, long types, boolean variable) {
        Kind kind = kind(owner);
        if (kind == null || name < 0 || name > 9 || n < 0 || n > 4 || (variable && n == 0)) {
            throw new IllegalArgumentException();
        }
        List<Integer> row = bytes(n, types);
        for (int type : row) {
            if (!isType(type)) {
                throw new IllegalArgumentException();
            }
        }
        for (Member member : members) {
            if (member.owner == kind && member.name == name && member.types.equals(row)) {
                throw new IllegalStateException();
            }
        }
        if (members.size() == 80) {
            throw new IllegalStateException();
        }
        members.add(new Member(members.size(), kind, name, row, variable));
        kept.keySet().removeIf(asked -> asked.name == name);
        return members.size() - 1;
    }

    private static List<Integer> bytes(int n, long row) {
        List<Integer> bytes = new ArrayList<>();
        for (int i = 0; i < n; i++) {
            bytes.add((int) (row >> (8 * i)) & 255);
        }
        return bytes;
    }

    private static void addWithFaces(Kind face, Set<Kind> line) {
        line.add(face);
        for (Kind above : face.faces) {
            addWithFaces(above, line);
        }
    }

    private List<Member> meant(int type, int name) {
        Set<Kind> line = new LinkedHashSet<>();
        for (Kind kind = kind(type); kind != null; kind = kind.above) {
            line.add(kind);
        }
        for (Kind kind : new ArrayList<>(line)) {
            for (Kind face : kind.faces) {
                addWithFaces(face, line);
            }
        }
        Map<List<Integer>, Member> meant = new LinkedHashMap<>();
        for (Kind kind : line) {
            for (Member member : members) {
                if (member.owner == kind && member.name == name) {
                    meant.putIfAbsent(member.types, member);
                }
            }
        }
        return new ArrayList<>(meant.values());
    }

    int meant(int type, int name, int i) {
        List<Member> meant = meant(type, name);
        return i < 0 || i >= meant.size() ? -1 : meant.get(i).number;
    }

    int call(int type, int name, int n, long classes) {
        if (kind(type) == null || name < 0 || name > 9 || n < 0 || n > 6) {
            throw new IllegalArgumentException();
        }
        List<Integer> values = bytes(n, classes);
        for (int value : values) {
            if (value != 255 && (!isType(value) || value < 3)) {
                throw new IllegalArgumentException();
            }
        }
        Asked asked = new Asked(type, name, values);
        String outcome = kept.get(asked);
        if (outcome != null) {
            found++;
        } else {
            workedOut++;
            outcome = choose(asked);
            if (kept.size() == 100) {
                kept.remove(kept.keySet().iterator().next());
            }
            kept.put(asked, outcome);
        }
        if (outcome.equals("ambiguous")) {
            throw new ArithmeticException();
        }
        if (outcome.equals("unfit")) {
            throw new NoSuchElementException();
        }
        return Integer.parseInt(outcome);
    }

    private String choose(Asked asked) {
        List<Member> fit = new ArrayList<>();
        for (phase = 1; phase <= 3; phase++) {
            for (Member member : meant(asked.type, asked.name)) {
                if (fits(member, asked.values)) {
                    fit.add(member);
                }
            }
            if (!fit.isEmpty()) {
                break;
            }
        }
        if (fit.isEmpty()) {
            phase = 0;
            return "unfit";
        }
        List<Member> best = new ArrayList<>(fit);
        best.removeIf(one -> fit.stream().anyMatch(other -> !moreSpecific(one, other)));
        return best.size() == 1 ? String.valueOf(best.get(0).number) : "ambiguous";
    }

    private boolean fits(Member member, List<Integer> values) {
        int n = values.size();
        int ahead = member.types.size() - (member.variable ? 1 : 0);
        if (member.variable != (phase == 3) || n < ahead || (!member.variable && n > ahead)) {
            return false;
        }
        for (int i = 0; i < n; i++) {
            if (!goes(values.get(i), member.typeFor(i))) {
                return false;
            }
        }
        return true;
    }

    private boolean goes(int value, int to) {
        if (to > 2) {
            return value == 255 || subtype(value, to);
        }
        String way = value + ">" + to;
        return phase != 1 && List.of("3>0", "3>1", "4>1", "5>2").contains(way);
    }

    private boolean moreSpecific(Member one, Member other) {
        int k = Math.max(one.types.size(), other.types.size());
        for (int i = 0; i < k; i++) {
            if (!subtype(one.typeFor(i), other.typeFor(i))) {
                return false;
            }
        }
        return true;
    }

    int look(int number, int what) {
        if (number < 0 || number >= members.size() || what < 0) {
            return -1;
        }
        Member member = members.get(number);
        List<Integer> all = new ArrayList<>(List.of(member.owner.number, member.name,
                member.types.size(), member.variable ? 1 : 0));
        all.addAll(member.types);
        return what < all.size() ? all.get(what) : -1;
    }

    int above(int type, int what) {
        Kind kind = kind(type);
        if (kind == null || what < 0 || what > 3) {
            return -1;
        }
        int subtypeOf = 0;
        for (int of = 0; of < 8 + kinds.size(); of++) {
            subtypeOf += subtype(type, of) ? 1 : 0;
        }
        return List.of(kind.face ? 1 : 0, kind.above == null ? -1 : kind.above.number,
                kind.faces.size(), subtypeOf).get(what);
    }

    int count(int what) {
        List<Integer> all = List.of(kinds.size(), members.size(), kept.size(), workedOut, found,
                phase);
        return what < 0 || what >= all.size() ? -1 : all.get(what);
    }
}
