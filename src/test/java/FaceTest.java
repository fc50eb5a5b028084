import java.lang.reflect.Field;
import java.lang.reflect.Method;
import java.lang.reflect.Modifier;
import java.util.Arrays;
import java.util.Set;
import java.util.TreeSet;

/** The public face is the document's, and nothing besides it can be seen from outside. */
public final class FaceTest {
    private static final Set<String> METHODS = Set.of(
        "int type(long,int)", "int clear()", "int sausage()", "int told(int)", "int doing(int,int)",
        "int fire(int,int)", "int simmer(int,int)", "int turn(int)", "int prick(int)", "int spots(int)",
        "int face(int,int)", "int now(int)", "int anew()", "int run(int,int)", "int odds()", "int pricks(int)",
        "int simmered(int)", "int planned(int,int,int)", "int heat(int,int)", "int even(int,int)",
        "int began(int,int,int)", "int why(int,int,int,int)", "int dried(int,int,int,int)",
        "int days(int,int,int,int)", "int test(int,int)", "int holds(int)", "int tube(int,int,int)",
        "int mark(int,int)", "int keep(int)", "int back(int)", "int count(int)", "long trace()");

    public static void main(String[] args) throws IllegalAccessException {
        Check check = new Check("FaceTest");
        check.isTrue("the class is public and final", Modifier.isPublic(BurstSkins.class.getModifiers())
            && Modifier.isFinal(BurstSkins.class.getModifiers()));
        check.due("constructors", BurstSkins.class.getDeclaredConstructors().length, 1);
        check.due("public constructors", BurstSkins.class.getConstructors().length, 1);
        constants(check);
        methods(check);
        for (Class<?> inside : BurstSkins.class.getDeclaredClasses()) {
            check.isTrue(inside + " is static and private", Modifier.isStatic(inside.getModifiers())
                && Modifier.isPrivate(inside.getModifiers()));
        }
        check.end();
    }

    private static void constants(Check check) throws IllegalAccessException {
        Set<String> seen = new TreeSet<>();
        for (Field f : BurstSkins.class.getDeclaredFields()) {
            boolean isPrivate = Modifier.isPrivate(f.getModifiers());
            if (!isPrivate) {
                check.isTrue(f + " is static and final", Modifier.isStatic(f.getModifiers())
                    && Modifier.isFinal(f.getModifiers()) && Modifier.isPublic(f.getModifiers()));
                seen.add(f.getName() + " " + f.getInt(null));
            }
        }
        Set<String> due = Set.of("BAD -1", "STATE -2", "FULL -3", "NONE -9", "NO -1000000");
        check.isTrue("the constants are the document's: " + seen, seen.equals(due));
    }

    private static void methods(Check check) {
        Set<String> seen = new TreeSet<>();
        Set<String> names = new TreeSet<>();
        METHODS.forEach(m -> names.add(m.substring(m.indexOf(' ') + 1, m.indexOf('('))));
        for (Method m : BurstSkins.class.getDeclaredMethods()) {
            if (Modifier.isPrivate(m.getModifiers())) {
                check.isTrue("no private method has the public name " + m.getName(), !names.contains(m.getName()));
            } else {
                check.isTrue(m + " is public, of the object", Modifier.isPublic(m.getModifiers())
                    && !Modifier.isStatic(m.getModifiers()));
                String all = Arrays.toString(m.getParameterTypes()).replaceAll("[\\[\\] ]", "");
                seen.add(m.getReturnType() + " " + m.getName() + "(" + all + ")");
            }
        }
        check.isTrue("the methods are the document's: " + seen, seen.equals(METHODS));
    }
}
