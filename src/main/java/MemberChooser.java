import java.util.NoSuchElementException;

/**
 * Classes and faces above one another, members of one name with other parameters, and which one
 * a call means: the single most specific one of the first of three phases in which some fit.
 */
public final class MemberChooser {
    public static final int NONE = -1;

    private static final int NAMES = 10;
    private static final int MOST_PARAMETERS = 4;
    private static final int MOST_VALUES = 6;
    private static final int NULL_VALUE = 255;

    // What may come of a call beside a member's number.
    private static final int AMBIGUOUS = -2;
    private static final int UNFIT = -3;

    private final Types types;
    private final Members members;
    private final Chooser chooser;
    private final KeptCalls kept;
    private int workedOut;
    private int foundKept;

    public MemberChooser() {
        types = new Types();
        members = new Members();
        chooser = new Chooser(types, members);
        kept = new KeptCalls();
        workedOut = 0;
        foundKept = 0;
    }

    public int type(int above) throws IllegalArgumentException, IllegalStateException {
        if (above != NONE && !types.isToldClass(above)) {
            throw new IllegalArgumentException("no such class");
        }
        if (types.isFull()) {
            throw new IllegalStateException("too many classes and faces");
        }
        return types.add(false, above);
    }

    public int face() throws IllegalStateException {
        if (types.isFull()) {
            throw new IllegalStateException("too many classes and faces");
        }
        return types.add(true, NONE);
    }

    public boolean join(int type, int face) {
        if (!types.addFaceAbove(type, face)) {
            return false;
        }
        kept.letGoAll();
        return true;
    }

    public int member(int owner, int name, int n, long types, boolean variable)
            throws IllegalArgumentException, IllegalStateException {
        if (!this.types.isTold(owner) || !isName(name)) {
            throw new IllegalArgumentException("no such owner or name");
        }
        if (!areParameters(n, types) || (variable && n == 0)) {
            throw new IllegalArgumentException("no such parameters");
        }
        long parameters = lowestBytes(types, n);
        if (members.isFull() || members.isTold(owner, name, n, parameters)) {
            throw new IllegalStateException("too many members, or one with the same parameters");
        }
        kept.letGoName(name);
        return members.add(owner, name, n, parameters, variable);
    }

    public boolean subtype(int type, int of) {
        return types.isSubtype(type, of);
    }

    public int meant(int type, int name, int i) {
        return chooser.meantAt(type, name, i);
    }

    public int call(int type, int name, int n, long classes)
            throws IllegalArgumentException, ArithmeticException, NoSuchElementException {
        if (!types.isTold(type) || !isName(name) || !areValues(n, classes)) {
            throw new IllegalArgumentException("no such type, name, n or class");
        }
        long row = lowestBytes(classes, n);
        int place = kept.find(type, name, n, row);
        if (place == NONE) {
            place = kept.keep(type, name, n, row, chooser.choose(type, name, n, row));
            workedOut++;
        } else {
            foundKept++;
        }
        int outcome = kept.outcomes[place];
        if (outcome == AMBIGUOUS) {
            throw new ArithmeticException("ambiguous");
        }
        if (outcome == UNFIT) {
            throw new NoSuchElementException("unfit");
        }
        return outcome;
    }

    public int look(int member, int what) {
        return members.tell(member, what);
    }

    public int above(int type, int what) {
        return types.tell(type, what);
    }

    public int count(int what) {
        switch (what) {
            case 0:
                return types.told;
            case 1:
                return members.told;
            case 2:
                return kept.held;
            case 3:
                return workedOut;
            case 4:
                return foundKept;
            case 5:
                return chooser.phase;
            default:
                return NONE;
        }
    }

    private boolean areParameters(int n, long row) {
        if (n < 0 || n > MOST_PARAMETERS) {
            return false;
        }
        for (int i = 0; i < n; i++) {
            if (!types.exists(byteAt(row, i))) {
                return false;
            }
        }
        return true;
    }

    private boolean areValues(int n, long row) {
        if (n < 0 || n > MOST_VALUES) {
            return false;
        }
        for (int i = 0; i < n; i++) {
            if (!isValue(byteAt(row, i))) {
                return false;
            }
        }
        return true;
    }

    private boolean isValue(int value) {
        return value == NULL_VALUE || (types.exists(value) && !Types.isPrimitive(value));
    }

    private static boolean isName(int name) {
        return name >= 0 && name < NAMES;
    }

    private static int byteAt(long row, int i) {
        return (int) ((row >>> (8 * i)) & 255L);
    }

    // Bytes beyond the n lowest say nothing, so that they must not make two rows differ.
    private static long lowestBytes(long row, int n) {
        return row & ((1L << (8 * n)) - 1L);
    }

    /** The types 0 .. 7 and, from 8 on, the classes and faces in the order told. */
    private static final class Types {
        static final int INT = 0;
        static final int LONG = 1;
        static final int BOOL = 2;
        static final int BOXED_INT = 3;
        static final int BOXED_LONG = 4;
        static final int BOXED_BOOL = 5;
        static final int ANY = 7;
        static final int FIRST_TOLD = 8;
        static final int MOST_TOLD = 24;
        static final int MOST_TYPES = FIRST_TOLD + MOST_TOLD;

        private final boolean[] faceMarks;
        private final int[] classAbove;
        private final int[] faceCounts;
        private final int[][] facesAbove;
        // Bit u of row t is set if t is a subtype of u; 32 types fill an int just so.
        private final int[] upward;
        private int told;

        Types() {
            faceMarks = new boolean[MOST_TYPES];
            classAbove = new int[MOST_TYPES];
            faceCounts = new int[MOST_TYPES];
            facesAbove = new int[MOST_TYPES][MOST_TOLD];
            upward = new int[MOST_TYPES];
            told = 0;
            for (int t = 0; t < FIRST_TOLD; t++) {
                upward[t] = isPrimitive(t) ? bit(t) : bit(t) | bit(ANY);
            }
            upward[INT] = bit(INT) | bit(LONG);
        }

        static boolean isPrimitive(int type) {
            return type >= INT && type <= BOOL;
        }

        boolean exists(int type) {
            return type >= 0 && type < FIRST_TOLD + told;
        }

        boolean isTold(int type) {
            return type >= FIRST_TOLD && exists(type);
        }

        boolean isToldClass(int type) {
            return isTold(type) && !faceMarks[type];
        }

        boolean isToldFace(int type) {
            return isTold(type) && faceMarks[type];
        }

        boolean isFull() {
            return told >= MOST_TOLD;
        }

        int add(boolean isFace, int above) {
            int type = FIRST_TOLD + told;
            if (type >= MOST_TYPES) {
                return NONE;
            }
            faceMarks[type] = isFace;
            classAbove[type] = above;
            upward[type] = bit(type) | bit(ANY);
            if (isTold(above)) {
                upward[type] |= upward[above];
            }
            told++;
            return type;
        }

        boolean isSubtype(int type, int of) {
            return exists(type) && exists(of) && (upward[type] & bit(of)) != 0;
        }

        boolean addFaceAbove(int type, int face) {
            if (!isTold(type) || !isToldFace(face)) {
                return false;
            }
            // A type is a subtype of itself, so this refuses the face itself too.
            if (isSubtype(face, type) || hasFace(type, face)) {
                return false;
            }
            int place = faceCounts[type];
            if (place >= MOST_TOLD) {
                return false;
            }
            facesAbove[type][place] = face;
            faceCounts[type] = place + 1;
            raiseAllBelow(type, face);
            return true;
        }

        int tell(int type, int what) {
            if (!isTold(type)) {
                return NONE;
            }
            switch (what) {
                case 0:
                    return faceMarks[type] ? 1 : 0;
                case 1:
                    return classAbove[type];
                case 2:
                    return faceCounts[type];
                case 3:
                    return Integer.bitCount(upward[type]);
                default:
                    return NONE;
            }
        }

        /**
         * Writes to line, as MEANT wants them, the type and all classes and faces above it, and
         * answers how many they are (0 if there is no such class or face).
         */
        int writeLine(int type, int[] line) {
            int length = 0;
            int at = type;
            while (isTold(at) && length < line.length) {
                line[length] = at;
                length++;
                at = classAbove[at];
            }
            int end = length;
            for (int i = 0; i < length; i++) {
                end = appendFaces(this, line[i], line, end, 0);
            }
            return end;
        }

        // No face is above itself, so the depth stays under the number of types told.
        private static int appendFaces(Types types, int type, int[] line, int length, int depth) {
            if (depth >= MOST_TOLD) {
                return length;
            }
            int end = length;
            for (int i = 0; i < types.faceCounts[type]; i++) {
                int face = types.facesAbove[type][i];
                if (end < line.length && !holds(line, end, face)) {
                    line[end] = face;
                    end = appendFaces(types, face, line, end + 1, depth + 1);
                }
            }
            return end;
        }

        private boolean hasFace(int type, int face) {
            return holds(facesAbove[type], faceCounts[type], face);
        }

        private void raiseAllBelow(int type, int face) {
            for (int t = FIRST_TOLD; t < FIRST_TOLD + told; t++) {
                if (isSubtype(t, type)) {
                    upward[t] |= upward[face];
                }
            }
        }

        private static boolean holds(int[] row, int length, int sought) {
            for (int i = 0; i < length && i < row.length; i++) {
                if (row[i] == sought) {
                    return true;
                }
            }
            return false;
        }

        private static int bit(int type) {
            return 1 << type;
        }
    }

    /** The members in the order told; a row of parameters is held as bytes, the first lowest. */
    private static final class Members {
        static final int MOST = 80;

        private final int[] owners;
        private final int[] names;
        private final int[] sizes;
        private final long[] parameters;
        private final boolean[] variables;
        private int told;

        Members() {
            owners = new int[MOST];
            names = new int[MOST];
            sizes = new int[MOST];
            parameters = new long[MOST];
            variables = new boolean[MOST];
            told = 0;
        }

        boolean isFull() {
            return told >= MOST;
        }

        boolean isTold(int owner, int name, int n, long row) {
            for (int m = 0; m < told; m++) {
                if (isOf(m, owner, name) && sizes[m] == n && parameters[m] == row) {
                    return true;
                }
            }
            return false;
        }

        int add(int owner, int name, int n, long row, boolean variable) {
            int number = told;
            if (number >= MOST) {
                return NONE;
            }
            owners[number] = owner;
            names[number] = name;
            sizes[number] = n;
            parameters[number] = row;
            variables[number] = variable;
            told++;
            return number;
        }

        boolean isOf(int m, int owner, int name) {
            return owners[m] == owner && names[m] == name;
        }

        boolean haveSameParameters(int m, int other) {
            return sizes[m] == sizes[other] && parameters[m] == parameters[other];
        }

        // Behind the last parameter a variable one goes on.
        int parameterFor(int m, int i) {
            return byteAt(parameters[m], Math.min(i, sizes[m] - 1));
        }

        int tell(int m, int what) {
            if (m < 0 || m >= told) {
                return NONE;
            }
            switch (what) {
                case 0:
                    return owners[m];
                case 1:
                    return names[m];
                case 2:
                    return sizes[m];
                case 3:
                    return variables[m] ? 1 : 0;
                default:
                    return what >= 4 && what < 4 + sizes[m] ? byteAt(parameters[m], what - 4) : NONE;
            }
        }
    }

    /** Works out which member a call means; its rows are made once and written anew each time. */
    private static final class Chooser {
        private final Types types;
        private final Members members;
        private final int[] line;
        private final int[] meant;
        private final int[] fitting;
        private int meantCount;
        private int fittingCount;
        private int phase;

        Chooser(Types types, Members members) {
            this.types = types;
            this.members = members;
            line = new int[Types.MOST_TOLD];
            meant = new int[Members.MOST];
            fitting = new int[Members.MOST];
            meantCount = 0;
            fittingCount = 0;
            phase = 0;
        }

        int meantAt(int type, int name, int i) {
            gatherMeant(type, name);
            return i >= 0 && i < meantCount ? meant[i] : NONE;
        }

        int choose(int type, int name, int n, long classes) {
            gatherMeant(type, name);
            for (int next = 1; next <= 3; next++) {
                phase = next;
                gatherFitting(n, classes);
                if (fittingCount > 0) {
                    return mostSpecific();
                }
            }
            phase = 0;
            return UNFIT;
        }

        private void gatherMeant(int type, int name) {
            meantCount = 0;
            int length = types.writeLine(type, line);
            for (int i = 0; i < length; i++) {
                appendMembers(line[i], name);
            }
        }

        private void appendMembers(int owner, int name) {
            for (int m = 0; m < members.told; m++) {
                if (members.isOf(m, owner, name) && !isHidden(m) && meantCount < meant.length) {
                    meant[meantCount] = m;
                    meantCount++;
                }
            }
        }

        private boolean isHidden(int m) {
            for (int i = 0; i < meantCount; i++) {
                if (members.haveSameParameters(m, meant[i])) {
                    return true;
                }
            }
            return false;
        }

        private void gatherFitting(int n, long classes) {
            fittingCount = 0;
            for (int i = 0; i < meantCount; i++) {
                if (fits(meant[i], n, classes)) {
                    fitting[fittingCount] = meant[i];
                    fittingCount++;
                }
            }
        }

        private boolean fits(int m, int n, long classes) {
            if (!takesSoMany(m, n)) {
                return false;
            }
            for (int i = 0; i < n; i++) {
                if (!goesTo(byteAt(classes, i), members.parameterFor(m, i))) {
                    return false;
                }
            }
            return true;
        }

        private boolean takesSoMany(int m, int n) {
            if (phase == 3) {
                return members.variables[m] && n >= members.sizes[m] - 1;
            }
            return !members.variables[m] && n == members.sizes[m];
        }

        private boolean goesTo(int value, int parameter) {
            if (Types.isPrimitive(parameter)) {
                return phase > 1 && unboxesTo(value, parameter);
            }
            return value == NULL_VALUE || types.isSubtype(value, parameter);
        }

        private static boolean unboxesTo(int value, int primitive) {
            switch (value) {
                case Types.BOXED_INT:
                    return primitive == Types.INT || primitive == Types.LONG;
                case Types.BOXED_LONG:
                    return primitive == Types.LONG;
                case Types.BOXED_BOOL:
                    return primitive == Types.BOOL;
                default:
                    return false;
            }
        }

        private int mostSpecific() {
            int chosen = AMBIGUOUS;
            for (int i = 0; i < fittingCount; i++) {
                if (isMoreSpecificThanAll(fitting[i])) {
                    if (chosen != AMBIGUOUS) {
                        return AMBIGUOUS;
                    }
                    chosen = fitting[i];
                }
            }
            return chosen;
        }

        private boolean isMoreSpecificThanAll(int m) {
            for (int i = 0; i < fittingCount; i++) {
                if (fitting[i] != m && !isMoreSpecific(m, fitting[i])) {
                    return false;
                }
            }
            return true;
        }

        // In phases 1 and 2 both have as many parameters, so that phase 3's rule does for all.
        private boolean isMoreSpecific(int m, int other) {
            int k = Math.max(members.sizes[m], members.sizes[other]);
            for (int i = 0; i < k; i++) {
                if (!types.isSubtype(members.parameterFor(m, i), members.parameterFor(other, i))) {
                    return false;
                }
            }
            return true;
        }
    }

    /** What came of calls, the one kept first ahead. */
    private static final class KeptCalls {
        static final int MOST = 100;

        private final int[] types;
        private final int[] names;
        private final int[] sizes;
        private final long[] classes;
        private final int[] outcomes;
        private int held;

        KeptCalls() {
            types = new int[MOST];
            names = new int[MOST];
            sizes = new int[MOST];
            classes = new long[MOST];
            outcomes = new int[MOST];
            held = 0;
        }

        int find(int type, int name, int n, long row) {
            for (int i = 0; i < held; i++) {
                if (types[i] == type && names[i] == name && sizes[i] == n && classes[i] == row) {
                    return i;
                }
            }
            return NONE;
        }

        int keep(int type, int name, int n, long row, int outcome) {
            if (held >= MOST) {
                letGoFirst();
            }
            int place = held;
            types[place] = type;
            names[place] = name;
            sizes[place] = n;
            classes[place] = row;
            outcomes[place] = outcome;
            held++;
            return place;
        }

        void letGoAll() {
            held = 0;
        }

        void letGoName(int name) {
            int left = 0;
            for (int i = 0; i < held; i++) {
                if (names[i] != name) {
                    move(i, left);
                    left++;
                }
            }
            held = left;
        }

        private void letGoFirst() {
            for (int i = 1; i < held; i++) {
                move(i, i - 1);
            }
            held--;
        }

        private void move(int from, int to) {
            types[to] = types[from];
            names[to] = names[from];
            sizes[to] = sizes[from];
            classes[to] = classes[from];
            outcomes[to] = outcomes[from];
        }
    }
}
