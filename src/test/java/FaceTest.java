import java.lang.reflect.Constructor;
import java.lang.reflect.Field;
import java.lang.reflect.Member;
import java.lang.reflect.Method;
import java.lang.reflect.Modifier;
import java.util.Arrays;
import java.util.Set;
import java.util.TreeSet;

/** The face is the document's, and nothing else can be seen from outside. */
public final class FaceTest {
    private static final String[] METHODS = {
        "int type(int)", "int clear()", "int hall()", "int thing(int,int)", "int cast(int,int)",
        "int far(int,int)", "int sets(int,int)", "int nights(int)", "int mends(int)",
        "int joins(int,int,int)", "int undo()", "int now(int)", "int plan(int,int,int)",
        "int best(int,int,int)", "int own(int)", "int near(int,int)", "int odds(int,int,int)",
        "int hears(int,int)", "int forget()", "int who()", "int ask()", "int mark(int,int)",
        "int keep(int)", "int back(int)", "int count(int)", "long trace()"};

    public static void main(String[] args) throws Exception {
        Check check = new Check();
        Class<?> face = CastGallery.class;
        check.holds("public and final",
            Modifier.isPublic(face.getModifiers()) && Modifier.isFinal(face.getModifiers()));
        methods(check, face);
        constants(check, face);
        Constructor<?>[] made = face.getDeclaredConstructors();
        check.due("constructors", made.length, 1);
        check.holds("the constructor is public, without parameters",
            Modifier.isPublic(made[0].getModifiers()) && made[0].getParameterCount() == 0);
        for (Class<?> inside : face.getDeclaredClasses()) {
            check.holds(inside + " is static and not public",
                Modifier.isStatic(inside.getModifiers()) && !Modifier.isPublic(inside.getModifiers()));
        }
        check.holds("at most twelve classes", face.getDeclaredClasses().length + 1 <= 12);
        check.end();
    }

    private static boolean seen(Member member) {
        return !Modifier.isPrivate(member.getModifiers());
    }

    private static void methods(Check check, Class<?> face) {
        Set<String> due = new TreeSet<>(Arrays.asList(METHODS));
        Set<String> names = new TreeSet<>();
        Set<String> is = new TreeSet<>();
        for (Method method : face.getDeclaredMethods()) {
            if (seen(method)) {
                String types = Arrays.toString(method.getParameterTypes());
                is.add(method.getReturnType() + " " + method.getName() + "("
                    + types.substring(1, types.length() - 1).replace(" ", "") + ")");
                names.add(method.getName());
                check.holds(method + " is public, not static",
                    Modifier.isPublic(method.getModifiers()) && !Modifier.isStatic(method.getModifiers()));
            }
        }
        check.holds("methods " + is, is.equals(due));
        for (Method method : face.getDeclaredMethods()) {
            check.holds(method + " is private under another name", seen(method) || !names.contains(method.getName()));
        }
        for (Class<?> inside : face.getDeclaredClasses()) {
            for (Method method : inside.getDeclaredMethods()) {
                check.holds(method + " bears another name", !names.contains(method.getName()));
            }
        }
    }

    private static void constants(Check check, Class<?> face) throws Exception {
        Set<String> due = new TreeSet<>(Arrays.asList("BAD -1", "STATE -2", "FULL -3", "NONE -9", "NO -1000000"));
        Set<String> is = new TreeSet<>();
        for (Field field : face.getDeclaredFields()) {
            if (seen(field)) {
                check.holds(field + " is a constant", Modifier.isPublic(field.getModifiers())
                    && Modifier.isStatic(field.getModifiers()) && Modifier.isFinal(field.getModifiers())
                    && field.getType() == int.class);
                is.add(field.getName() + " " + field.getInt(null));
            }
        }
        check.holds("constants " + is, is.equals(due));
    }
}
