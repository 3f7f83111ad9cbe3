/** Objects that several tests begin with. */
final class Made {
    private Made() {
    }

    /** One class, 8. */
    static MemberChooser withClass() {
        MemberChooser x = new MemberChooser();
        x.type(-1);
        return x;
    }

    /** So many classes from 8 on, none above another one. */
    static MemberChooser classes(int many) {
        MemberChooser x = new MemberChooser();
        for (int i = 0; i < many; i++) {
            x.type(-1);
        }
        return x;
    }

    /** So many faces from 8 on, none above another one. */
    static MemberChooser faces(int many) {
        MemberChooser x = new MemberChooser();
        for (int i = 0; i < many; i++) {
            x.face();
        }
        return x;
    }

    /** So many classes from 8 on, each below the one told ahead of it. */
    static MemberChooser classChain(int many) {
        MemberChooser x = new MemberChooser();
        for (int i = 0; i < many; i++) {
            x.type(i == 0 ? -1 : 7 + i);
        }
        return x;
    }

    /** So many faces from 8 on, each below the one told ahead of it. */
    static MemberChooser faceChain(int many) {
        MemberChooser x = faces(many);
        for (int i = 1; i < many; i++) {
            x.join(8 + i, 7 + i);
        }
        return x;
    }

    /** Class 8 and so many faces from 9 on, all above it in that order. */
    static MemberChooser classBelowFaces(int many) {
        MemberChooser x = withClass();
        for (int i = 0; i < many; i++) {
            x.face();
            x.join(8, 9 + i);
        }
        return x;
    }
}
