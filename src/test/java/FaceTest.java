import java.lang.reflect.Constructor;
import java.lang.reflect.Field;
import java.lang.reflect.Method;
import java.lang.reflect.Modifier;
import java.util.Set;
import java.util.TreeSet;

/** The public face of the document, and LANGUAGE.md's rules 1 and 5 as far as they can be seen from outside. */
public final class FaceTest {
    private static final Due due = new Due("FaceTest");
    private static final String METHODS = "await(int,int)int block(int,int,int)int carryOut()int count(int)int fault()int"
        + " losing(int,int)int mend(int)int places(int)long put(long)int read(int)int resize(int)int restore(int)int"
        + " round(int)int save(int)int scrub()int share()int undo()int wipe()int wipeOut(int,int)int"
        + " wouldRead(int,int,int)int write(int,int)int";
    private static final String CONSTANTS = "BAD_TEXT=-3 BAD_VALUE=-2 LOSE=1 NONE=-6 NOT_POSSIBLE=-5 NO_SUCH=-1"
        + " ROT=4 STRAY=2 TOO_MANY=-4 TWICE=3";

    public static void main(String[] args) throws IllegalAccessException {
        Class<?> face = BlockRounds.class;
        due.holds("public and final", Modifier.isPublic(face.getModifiers()) && Modifier.isFinal(face.getModifiers()));
        methods(face);
        constants(face);
        Constructor<?>[] constructors = face.getDeclaredConstructors();
        due.is("constructors", 1, constructors.length);
        due.holds("constructor", Modifier.isPublic(constructors[0].getModifiers()) && constructors[0].getParameterCount() == 0);
        for (Class<?> inside : face.getDeclaredClasses()) {
            due.holds(inside + " is private or package-visible, and static",
                (inside.getModifiers() & (Modifier.PUBLIC | Modifier.PROTECTED)) == 0 && Modifier.isStatic(inside.getModifiers()));
            for (Field field : inside.getDeclaredFields()) {
                due.holds(field + " is no static state", !Modifier.isStatic(field.getModifiers()) || Modifier.isFinal(field.getModifiers()));
            }
        }
        due.end();
    }

    private static void methods(Class<?> face) {
        Set<String> found = new TreeSet<>();
        Set<String> names = new TreeSet<>();
        for (Method method : face.getDeclaredMethods()) {
            if (!Modifier.isPrivate(method.getModifiers())) {
                found.add(signature(method));
                names.add(method.getName());
                due.holds(method + " is a public one of an object", method.getModifiers() == Modifier.PUBLIC);
            }
        }
        due.is("methods", METHODS, String.join(" ", found));
        for (Method method : face.getDeclaredMethods()) {
            due.holds(method + " bears no public name", !Modifier.isPrivate(method.getModifiers()) || !names.contains(method.getName()));
        }
        for (Class<?> inside : face.getDeclaredClasses()) {
            for (Method method : inside.getDeclaredMethods()) {
                due.holds(method + " bears no public name", !names.contains(method.getName()));
            }
        }
    }

    private static String signature(Method method) {
        StringBuilder text = new StringBuilder(method.getName()).append('(');
        for (Class<?> type : method.getParameterTypes()) {
            text.append(text.charAt(text.length() - 1) == '(' ? "" : ",").append(type);
        }
        return text.append(')').append(method.getReturnType()).toString();
    }

    private static void constants(Class<?> face) throws IllegalAccessException {
        Set<String> found = new TreeSet<>();
        for (Field field : face.getDeclaredFields()) {
            boolean isPrivate = Modifier.isPrivate(field.getModifiers());
            if (!isPrivate) {
                due.is(field.toString(), Modifier.PUBLIC | Modifier.STATIC | Modifier.FINAL, field.getModifiers());
                due.holds(field + " is an int", field.getType() == int.class);
                found.add(field.getName() + "=" + field.getInt(null));
            }
            due.holds(field + " is no static state", !Modifier.isStatic(field.getModifiers()) || Modifier.isFinal(field.getModifiers()));
        }
        due.is("constants", CONSTANTS, String.join(" ", found));
    }
}
