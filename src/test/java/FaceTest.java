import java.lang.reflect.Constructor;
import java.lang.reflect.Field;
import java.lang.reflect.Method;
import java.lang.reflect.Modifier;
import java.util.Set;
import java.util.TreeSet;

/** The public face of the document, and nothing beside it. */
public final class FaceTest {
    private static final String ARGUMENT = " throws java.lang.IllegalArgumentException";
    private static final String INDEX = " throws java.lang.IndexOutOfBoundsException";
    private static final String INDEX_ARGUMENT = INDEX + ",java.lang.IllegalArgumentException";
    private static final String[] FACE = {
        "int setRack(int,int,int)" + ARGUMENT,
        "int setShell(int,int,int,int)" + ARGUMENT,
        "int setWind(int,int,int)" + ARGUMENT,
        "int setPeople(int,int,int)" + ARGUMENT,
        "int setValue(int,int,int)" + ARGUMENT,
        "int peopled()",
        "int flight(int)" + ARGUMENT,
        "int inLayer(int,int)" + ARGUMENT,
        "int cue(int,int,int)" + ARGUMENT + ",java.lang.IllegalStateException",
        "int cut(int)" + INDEX,
        "int setTempo(int)" + ARGUMENT,
        "int becomes(int)" + INDEX,
        "int bursts(int)" + INDEX,
        "int fires(int)" + INDEX,
        "int falls(int,int)" + INDEX_ARGUMENT,
        "int fallsBySteps(int,int)" + INDEX_ARGUMENT,
        "int burstAt(int,int)" + INDEX_ARGUMENT,
        "long danger(int)" + INDEX,
        "int cues()",
        "int fired()",
        "int firing(int)" + INDEX,
        "int closed()",
        "boolean kill(int,int)" + ARGUMENT,
        "int setGap(int)" + ARGUMENT,
        "int channelOf(int)" + INDEX,
        "int cueOn(int,int)" + ARGUMENT,
        "int spares()",
        "int setRate(int,int)" + ARGUMENT,
        "int price(int)" + INDEX,
        "int total()",
    };

    private FaceTest() {
    }

    public static void main(String[] args) {
        Set<String> due = new TreeSet<>();
        for (String method : FACE) {
            due.add("public " + method);
        }
        Set<String> names = new TreeSet<>();
        Set<String> got = new TreeSet<>();
        for (Method method : MortarShow.class.getDeclaredMethods()) {
            if (!Modifier.isPrivate(method.getModifiers()) && !method.isSynthetic()) {
                got.add(method.toGenericString().replace("MortarShow.", ""));
                names.add(method.getName());
            }
        }
        Check.same("the methods of the face", String.join("\n", got), String.join("\n", due));
        for (Method method : MortarShow.class.getDeclaredMethods()) {
            if (Modifier.isPrivate(method.getModifiers()) && names.contains(method.getName())) {
                Check.report("a private method bears the public name " + method.getName());
            }
        }
        checkRest();
        Check.end("FaceTest");
    }

    private static void checkRest() {
        Check.same("public and final", MortarShow.class.getModifiers(), Modifier.PUBLIC | Modifier.FINAL);
        Constructor<?>[] constructors = MortarShow.class.getDeclaredConstructors();
        Check.same("constructors", constructors.length, 1);
        Check.same("the constructor", constructors[0].toGenericString(), "public MortarShow()");
        for (Field field : MortarShow.class.getDeclaredFields()) {
            Check.same(field.getName() + " is private", Modifier.isPrivate(field.getModifiers()), true);
            boolean isStatic = Modifier.isStatic(field.getModifiers());
            Check.same(field.getName() + " is no static state",
                    isStatic && !Modifier.isFinal(field.getModifiers()), false);
        }
        Check.same("classes inside", MortarShow.class.getDeclaredClasses().length < 12, true);
    }
}
