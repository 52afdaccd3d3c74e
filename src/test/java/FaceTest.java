import java.lang.reflect.Constructor;
import java.lang.reflect.Field;
import java.lang.reflect.Method;
import java.lang.reflect.Modifier;
import java.util.Arrays;
import java.util.Set;
import java.util.TreeSet;

/** "The public face": the class, its constructor and its methods with their heads, and nothing more that is not private. */
public final class FaceTest {
    private static final Check CHECK = new Check();
    private static final String ARGUMENT = "java.lang.IllegalArgumentException";
    private static final String STATE = "java.lang.IllegalStateException";
    private static final String INDEX = "java.lang.IndexOutOfBoundsException";

    public static void main(String[] args) {
        head();
        constructor();
        methods();
        fields();
        classesInside();
        CHECK.end();
    }

    private static void head() {
        int modifiers = LaneDesk.class.getModifiers();
        CHECK.due("the class is public", Modifier.isPublic(modifiers), true);
        CHECK.due("the class is final", Modifier.isFinal(modifiers), true);
        CHECK.due("the class extends nothing", LaneDesk.class.getSuperclass() == Object.class, true);
        CHECK.due("interfaces of the class", LaneDesk.class.getInterfaces().length, 0);
        CHECK.due("type parameters of the class", LaneDesk.class.getTypeParameters().length, 0);
        CHECK.due("the class has no package", LaneDesk.class.getPackageName().isEmpty(), true);
    }

    private static void constructor() {
        Constructor<?>[] constructors = LaneDesk.class.getDeclaredConstructors();
        CHECK.due("constructors", constructors.length, 1);
        CHECK.due("the constructor's head", "public LaneDesk()".equals(constructors[0].toGenericString()), true);
    }

    private static void methods() {
        Set<String> want = new TreeSet<>(Arrays.asList(
                "public int LaneDesk.type(long,int) throws " + ARGUMENT + "," + STATE,
                "public void LaneDesk.clear()",
                "public int LaneDesk.compile()",
                "public int LaneDesk.place()",
                "public boolean LaneDesk.varies(int) throws " + STATE + "," + ARGUMENT,
                "public void LaneDesk.input(int,int) throws " + ARGUMENT + "," + STATE,
                "public void LaneDesk.lanes(int) throws " + ARGUMENT + "," + STATE,
                "public void LaneDesk.start() throws " + STATE,
                "public int LaneDesk.run(int) throws " + STATE + "," + ARGUMENT,
                "public int LaneDesk.mask()",
                "public int LaneDesk.spent(int) throws " + ARGUMENT + "," + STATE,
                "public int LaneDesk.alone(int) throws " + STATE + "," + ARGUMENT,
                "public int LaneDesk.lane(boolean,int,int) throws " + ARGUMENT + "," + STATE,
                "public int LaneDesk.out(boolean,int,int) throws " + ARGUMENT + "," + STATE + "," + INDEX,
                "public int LaneDesk.cell(boolean,int,int) throws " + ARGUMENT + "," + STATE));
        Set<String> got = new TreeSet<>();
        for (Method method : LaneDesk.class.getDeclaredMethods()) {
            if (!Modifier.isPrivate(method.getModifiers())) {
                got.add(method.toGenericString());
            }
        }
        CHECK.due("methods of the face", want.size(), 15);
        tellMissing(want, got, "is missing");
        tellMissing(got, want, "is one too many");
    }

    private static void tellMissing(Set<String> these, Set<String> those, String what) {
        for (String head : these) {
            if (!those.contains(head)) {
                CHECK.report(head + " " + what);
            }
        }
    }

    private static void fields() {
        for (Field field : LaneDesk.class.getDeclaredFields()) {
            CHECK.due(field + " is private", Modifier.isPrivate(field.getModifiers()), true);
        }
    }

    private static void classesInside() {
        for (Class<?> inside : LaneDesk.class.getDeclaredClasses()) {
            CHECK.due(inside + " is private", Modifier.isPrivate(inside.getModifiers()), true);
        }
    }
}
