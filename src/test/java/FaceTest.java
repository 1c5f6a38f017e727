import java.lang.reflect.Constructor;
import java.lang.reflect.Field;
import java.lang.reflect.Method;
import java.lang.reflect.Modifier;
import java.util.Set;
import java.util.TreeSet;

/** The public face: the class, its constants, its constructor and its methods, and nothing else. */
public final class FaceTest {
    private static final Set<String> FACE = Set.of(
        "boolean sign(int)", "int read() throws java.lang.IllegalStateException", "int wrong()",
        "int word(int,int,int,long)", "int clear()", "boolean fits(int,int,int)", "int derive(int)",
        "int part(int,int,int)", "long sum(int)", "int furthest()", "int print(int)", "int at(int)");

    public static void main(String[] args) throws IllegalAccessException {
        Due.is("public final", Modifier.isPublic(AddressGrammar.class.getModifiers())
            && Modifier.isFinal(AddressGrammar.class.getModifiers()), true);
        Due.is("NONE", AddressGrammar.NONE, -1);
        Due.is("OUTSIDE", AddressGrammar.OUTSIDE, -12);
        Due.is("STATE", AddressGrammar.STATE, -13);
        Due.is("ROOM", AddressGrammar.ROOM, -14);
        fields();
        methods();
        Constructor<?>[] made = AddressGrammar.class.getDeclaredConstructors();
        Due.is("constructors", made.length, 1);
        Due.is("the constructor's face", made[0].toString(), "public AddressGrammar()");
        Due.end("FaceTest");
    }

    private static void fields() {
        Set<String> seen = new TreeSet<>();
        for (Field field : AddressGrammar.class.getDeclaredFields()) {
            if (!Modifier.isPrivate(field.getModifiers())) {
                seen.add(field.toString().replace("AddressGrammar.", ""));
            }
        }
        Due.is("visible fields", seen.toString(), "[public static final int NONE, public static final int OUTSIDE, "
            + "public static final int ROOM, public static final int STATE]");
    }

    private static void methods() {
        Set<String> seen = new TreeSet<>();
        for (Method method : AddressGrammar.class.getDeclaredMethods()) {
            if (!Modifier.isPrivate(method.getModifiers()) && !method.isSynthetic()) {
                seen.add(method.toString().replace("public ", "").replace("AddressGrammar.", ""));
            }
        }
        Due.is("visible methods", seen.toString(), new TreeSet<>(FACE).toString());
    }
}
