import java.lang.reflect.Constructor;
import java.lang.reflect.Field;
import java.lang.reflect.Method;
import java.lang.reflect.Modifier;
import java.util.Arrays;
import java.util.Set;
import java.util.TreeSet;
import java.util.stream.Collectors;

/** The public face as the document writes it, and nothing else that is visible. */
public final class FaceTests {
    private static final Checks CHECKS = new Checks("FaceTests");
    private static final String ARGUMENT = "IllegalArgumentException";
    private static final String STATE = "IllegalStateException";

    public static void main(String[] args) {
        methodsAreTheDocuments();
        restIsTheDocuments();
        noPrivateMethodHasAPublicName();
        nestedClassesAreHidden();
        fieldsAndParametersAreFew();
        CHECKS.end();
    }

    private static String simple(Class<?>[] types) {
        return Arrays.stream(types).map(Class::getSimpleName).collect(Collectors.joining(","));
    }

    private static String face(Method method) {
        return Modifier.toString(method.getModifiers()) + " " + method.getReturnType().getSimpleName() + " "
                + method.getName() + "(" + simple(method.getParameterTypes()) + ") "
                + simple(method.getExceptionTypes());
    }

    private static void methodsAreTheDocuments() {
        Set<String> want = new TreeSet<>(Set.of(
                "public void feed(int,int,int,int,int) ",
                "public int end(int) ",
                "public int make(int,int,int) " + ARGUMENT + "," + STATE,
                "public int choose() ",
                "public int write(int) " + ARGUMENT + "," + STATE,
                "public void cut(int) " + ARGUMENT + "," + STATE,
                "public void set(int,int) " + ARGUMENT + "," + STATE,
                "public int remove() " + STATE,
                "public int begin(int) " + ARGUMENT + "," + STATE,
                "public int step(int) " + STATE + "," + ARGUMENT,
                "public void crash() " + STATE,
                "public int regress(int) " + STATE + "," + ARGUMENT,
                "public int restore(int) " + STATE,
                "public int prune(int) " + STATE,
                "public int differ() ",
                "public int entry(int,int,int) ",
                "public int at(int,int,boolean,int) ",
                "public int about(int) ",
                "public int session(int,int) "));
        Set<String> got = new TreeSet<>();
        for (Method method : MirrorKeep.class.getDeclaredMethods()) {
            if (!Modifier.isPrivate(method.getModifiers()) && !method.isSynthetic()) {
                got.add(face(method));
            }
        }
        CHECKS.due("methods", got.toString(), want.toString());
    }

    private static void restIsTheDocuments() {
        CHECKS.due("class", Modifier.toString(MirrorKeep.class.getModifiers()), "public final");
        CHECKS.due("package", MirrorKeep.class.getPackageName(), "");
        Constructor<?>[] constructors = MirrorKeep.class.getDeclaredConstructors();
        CHECKS.due("constructors", constructors.length, 1);
        CHECKS.due("constructor", Arrays.toString(constructors), "[public MirrorKeep()]");
        for (Field field : MirrorKeep.class.getDeclaredFields()) {
            boolean hidden = Modifier.isPrivate(field.getModifiers());
            CHECKS.due("hidden: " + field.getName(), hidden ? 1 : 0, field.getName().equals("NONE") ? 0 : 1);
            boolean stays = !Modifier.isStatic(field.getModifiers()) || Modifier.isFinal(field.getModifiers());
            CHECKS.due("no static state: " + field.getName(), stays ? 1 : 0, 1);
        }
    }

    private static Class<?>[] allClasses() {
        Class<?>[] nested = MirrorKeep.class.getDeclaredClasses();
        Class<?>[] all = Arrays.copyOf(nested, nested.length + 1);
        all[nested.length] = MirrorKeep.class;
        return all;
    }

    private static void noPrivateMethodHasAPublicName() {
        Set<String> shown = new TreeSet<>();
        for (Method method : MirrorKeep.class.getMethods()) {
            shown.add(method.getName());
        }
        for (Class<?> one : allClasses()) {
            for (Method method : one.getDeclaredMethods()) {
                boolean ofTheFace = Modifier.isPublic(method.getModifiers());
                CHECKS.due("a public name: " + method, !ofTheFace && shown.contains(method.getName()) ? 1 : 0, 0);
            }
        }
    }

    private static void nestedClassesAreHidden() {
        Class<?>[] nested = MirrorKeep.class.getDeclaredClasses();
        CHECKS.due("at most twelve classes", nested.length < 12 ? 1 : 0, 1);
        for (Class<?> one : nested) {
            int modifiers = one.getModifiers();
            CHECKS.due("static: " + one.getName(), Modifier.isStatic(modifiers) ? 1 : 0, 1);
            boolean shown = Modifier.isPublic(modifiers) || Modifier.isProtected(modifiers);
            CHECKS.due("hidden: " + one.getName(), shown ? 1 : 0, 0);
            CHECKS.due("no class within: " + one.getName(), one.getDeclaredClasses().length, 0);
        }
    }

    /** LANGUAGE.md, rules 5 and 11. */
    private static void fieldsAndParametersAreFew() {
        Set<String> constants = Set.of("int", "long", "boolean", "char", "String", "int[]", "long[]", "char[]", "byte[]");
        for (Class<?> one : allClasses()) {
            int fields = 0;
            for (Field field : one.getDeclaredFields()) {
                if (Modifier.isStatic(field.getModifiers())) {
                    CHECKS.holds("final: " + field, Modifier.isFinal(field.getModifiers()));
                    CHECKS.holds("a constant: " + field, constants.contains(field.getType().getSimpleName()));
                } else {
                    fields++;
                }
            }
            CHECKS.holds("at most twenty fields: " + one.getName(), fields <= 20);
            for (Method method : one.getDeclaredMethods()) {
                CHECKS.holds("at most seven parameters: " + method, method.getParameterCount() <= 7);
            }
            for (Constructor<?> constructor : one.getDeclaredConstructors()) {
                CHECKS.holds("at most seven parameters: " + constructor, constructor.getParameterCount() <= 7);
            }
        }
    }
}
