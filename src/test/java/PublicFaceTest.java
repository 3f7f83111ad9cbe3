import java.lang.reflect.Constructor;
import java.lang.reflect.Field;
import java.lang.reflect.Method;
import java.lang.reflect.Modifier;
import java.util.Set;
import java.util.TreeSet;

/** The public face: the document's constant, constructor and methods, and nothing else. */
public final class PublicFaceTest {
    public static void main(String[] args) {
        Set<String> got = new TreeSet<>();
        for (Field field : MemberChooser.class.getDeclaredFields()) {
            if (!Modifier.isPrivate(field.getModifiers())) {
                got.add(field.toString());
            }
        }
        for (Constructor<?> constructor : MemberChooser.class.getDeclaredConstructors()) {
            got.add(constructor.toString());
        }
        for (Method method : MemberChooser.class.getDeclaredMethods()) {
            if (!Modifier.isPrivate(method.getModifiers())) {
                got.add(method.toString().replace("java.lang.", "").replace("java.util.", ""));
            }
        }
        Checks.due(want(), "the public face", () -> got);
        Checks.due("public final", "the class", () ->
                Modifier.toString(MemberChooser.class.getModifiers()));
        Checks.end();
    }

    private static Set<String> want() {
        String name = " MemberChooser.";
        String wrong = " throws IllegalArgumentException,IllegalStateException";
        Set<String> want = new TreeSet<>();
        want.add("public static final int MemberChooser.NONE");
        want.add("public MemberChooser()");
        want.add("public int" + name + "type(int)" + wrong);
        want.add("public int" + name + "face() throws IllegalStateException");
        want.add("public boolean" + name + "join(int,int)");
        want.add("public int" + name + "member(int,int,int,long,boolean)" + wrong);
        want.add("public boolean" + name + "subtype(int,int)");
        want.add("public int" + name + "meant(int,int,int)");
        want.add("public int" + name + "call(int,int,int,long) throws IllegalArgumentException,"
                + "ArithmeticException,NoSuchElementException");
        want.add("public int" + name + "look(int,int)");
        want.add("public int" + name + "above(int,int)");
        want.add("public int" + name + "count(int)");
        return want;
    }
}
