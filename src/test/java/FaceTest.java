import java.lang.reflect.Constructor;
import java.lang.reflect.Field;
import java.lang.reflect.Member;
import java.lang.reflect.Method;
import java.lang.reflect.Modifier;
import java.util.ArrayList;
import java.util.Arrays;
import java.util.Collections;
import java.util.List;

/** The public face: just the constants, the constructor and the methods of the document. */
public final class FaceTest {
    private static final String[] METHODS = {
        "int arm(int, int, int)", "int hook(int, int, int)", "int dart(int, int, int, int)",
        "int fling(int, int, int, int, int, int, int)", "int strikes(int, int, int, int, int)",
        "int length(int, int, int, int)", "int straight(int, int, int, int)",
        "int contest(int, int, int, int, int, int)", "int story(int, int, int)", "int tries(int, int)",
        "int odds(int)", "int parts()", "int person(int, int, boolean)", "int praise(int)", "int pairs()",
        "int span(int, int)", "int thorn(int, int, int, int)", "int kinds(int)", "int land(int)", "int butt(int)",
        "int play(int)", "int which(int, int)", "int hands(int, int, int)", "int known(int, int, int)",
        "int prior(int, int)", "int tip(int, int)", "int layer(int, int, int)", "int came(int)",
        "int type(long, int)", "int clear()", "int fault()", "int plan(int)", "int sign(int)", "int limb(int, int)",
        "int image(int)", "int from(int)", "int status(int)", "int count(int)", "long digest()"};

    private FaceTest() {
    }

    public static void main(String[] args) {
        Class<?> face = ThrowHook.class;
        Check.isTrue("the class is public and final", face.getModifiers() == (Modifier.PUBLIC | Modifier.FINAL));
        constants();
        constructor(face);
        methods(face);
        nothingElse(face);
        insides(face);
        Check.end();
    }

    private static void constants() {
        Check.due(1, "NONE", ThrowHook.NONE, -1);
        Check.due(1, "BAD", ThrowHook.BAD, -2);
        Check.due(1, "NO", ThrowHook.NO, -3);
        Check.due(1, "FULL", ThrowHook.FULL, -4);
    }

    private static void constructor(Class<?> face) {
        Constructor<?>[] all = face.getDeclaredConstructors();
        Check.isTrue("one public constructor without parameters",
                all.length == 1 && Modifier.isPublic(all[0].getModifiers()) && all[0].getParameterCount() == 0);
    }

    private static String told(Method method) {
        List<String> types = new ArrayList<>();
        for (Class<?> type : method.getParameterTypes()) {
            types.add(type.getName());
        }
        return method.getReturnType().getName() + " " + method.getName() + "(" + String.join(", ", types) + ")";
    }

    private static void methods(Class<?> face) {
        List<String> found = new ArrayList<>();
        for (Method method : face.getDeclaredMethods()) {
            if (Modifier.isPublic(method.getModifiers())) {
                found.add(told(method));
            }
        }
        List<String> want = new ArrayList<>(Arrays.asList(METHODS));
        Collections.sort(found);
        Collections.sort(want);
        Check.isTrue("the public methods are the document's: " + found, found.equals(want));
    }

    private static void nothingElse(Class<?> face) {
        List<String> names = new ArrayList<>();
        for (Method method : face.getDeclaredMethods()) {
            if (Modifier.isPublic(method.getModifiers())) {
                names.add(method.getName());
            }
        }
        for (Method method : face.getDeclaredMethods()) {
            if (!Modifier.isPublic(method.getModifiers()) && !method.isSynthetic()) {
                Check.isTrue(method + " is private", isPrivate(method));
                Check.isTrue(method + " has a name of its own", !names.contains(method.getName()));
            }
        }
        List<String> constants = Arrays.asList("NONE", "BAD", "NO", "FULL");
        for (Field field : face.getDeclaredFields()) {
            boolean isConstant = constants.contains(field.getName());
            int due = Modifier.PUBLIC | Modifier.STATIC | Modifier.FINAL;
            Check.isTrue(field + " is as it should be",
                    isConstant ? field.getModifiers() == due && field.getType() == int.class : isPrivate(field));
            Check.isTrue(field + " is final where it is static", !isStaticAndOpen(field));
        }
    }

    private static void insides(Class<?> face) {
        Check.isTrue("at most twelve classes", face.getDeclaredClasses().length < 12);
        for (Class<?> inside : face.getDeclaredClasses()) {
            int modifiers = inside.getModifiers();
            Check.isTrue(inside + " is static and not public",
                    Modifier.isStatic(modifiers) && !Modifier.isPublic(modifiers) && !Modifier.isProtected(modifiers));
            int fields = 0;
            for (Field field : inside.getDeclaredFields()) {
                fields += Modifier.isStatic(field.getModifiers()) ? 0 : 1;
                Check.isTrue(field + " is final where it is static", !isStaticAndOpen(field));
            }
            Check.isTrue(inside + " has at most twenty fields", fields <= 20);
        }
    }

    private static boolean isPrivate(Member member) {
        return Modifier.isPrivate(member.getModifiers());
    }

    private static boolean isStaticAndOpen(Field field) {
        return Modifier.isStatic(field.getModifiers()) && !Modifier.isFinal(field.getModifiers());
    }
}
