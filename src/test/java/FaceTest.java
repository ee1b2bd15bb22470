import java.lang.reflect.Constructor;
import java.lang.reflect.Field;
import java.lang.reflect.Method;
import java.lang.reflect.Modifier;
import java.util.ArrayList;
import java.util.Arrays;
import java.util.HashSet;
import java.util.List;
import java.util.Set;
import java.util.TreeSet;

/** The public face: just the members that the document lists. */
public final class FaceTest {
    private static final String[] METHODS = {
        "int port(int,int)", "int way(int,int,int)", "int price(int,int)", "int ship(int,int,int,int)",
        "int speed(int,int)", "int free(int,int,int)", "int shipTold(int,int)",
        "int offer(int,int,int,int,int,int)", "int why(int,int)", "long estimate(int,int,int)",
        "long best(int,int,int)", "int chain(int,int,int)", "int fix(int,int)", "int go(int)", "int clear()",
        "int bunker(int)", "int bought(int,int)", "int log(int,int,int)", "int lay(int,int,int,int,int)",
        "int right(int,int,int)", "int sort(int,int)", "int feed(int,long)", "int text()",
        "int charter(int,int,int,int,int,long)", "int lift(int,boolean)", "int charterTold(int,int)",
        "long pays(int)", "int counts(int,int)", "int account(int,int)", "int owners(int)", "int count(int)",
        "int sheet(int,int,int)", "int cell(int,int,int)", "int taken(int,int)"};

    private static String told(Method m) {
        List<String> types = new ArrayList<>();
        for (Class<?> type : m.getParameterTypes()) {
            types.add(type.getName());
        }
        return m.getReturnType() + " " + m.getName() + "(" + String.join(",", types) + ")";
    }

    public static void main(String[] args) {
        Due due = new Due("FaceTest");
        Class<?> c = TrampOffice.class;
        due.is(Modifier.PUBLIC | Modifier.FINAL, c.getModifiers(), "modifiers of the class");

        Set<String> publics = new TreeSet<>();
        Set<String> names = new HashSet<>();
        for (Method m : c.getDeclaredMethods()) {
            if (Modifier.isPublic(m.getModifiers())) {
                publics.add(told(m));
                names.add(m.getName());
                due.is(Modifier.PUBLIC, m.getModifiers(), "modifiers of " + m.getName());
            }
        }
        due.is(METHODS.length, publics.size(), "how many public methods");
        due.holds(publics.equals(new TreeSet<>(Arrays.asList(METHODS))), "the public methods are those of the document: " + publics);
        for (Method m : c.getDeclaredMethods()) {
            if (!Modifier.isPublic(m.getModifiers())) {
                due.holds(Modifier.isPrivate(m.getModifiers()), m.getName() + " is private");
                due.holds(!names.contains(m.getName()), m.getName() + " has not the name of a public method");
            }
        }

        Set<String> constants = new TreeSet<>();
        for (Field f : c.getDeclaredFields()) {
            if (Modifier.isPublic(f.getModifiers())) {
                constants.add(f.getType() + " " + f.getName());
                due.is(Modifier.PUBLIC | Modifier.STATIC | Modifier.FINAL, f.getModifiers(), "modifiers of " + f.getName());
            } else {
                due.holds(Modifier.isPrivate(f.getModifiers()), f.getName() + " is private");
            }
        }
        due.holds(constants.equals(new TreeSet<>(List.of("int NONE", "int BAD", "int STATE", "int FULL", "long NO"))), "the constants: " + constants);
        due.is(-1, TrampOffice.NONE, "NONE");
        due.is(-2, TrampOffice.BAD, "BAD");
        due.is(-3, TrampOffice.STATE, "STATE");
        due.is(-4, TrampOffice.FULL, "FULL");
        due.is(-4611686018427387904L, TrampOffice.NO, "NO");

        Constructor<?>[] made = c.getDeclaredConstructors();
        due.is(1, made.length, "how many constructors");
        due.is(Modifier.PUBLIC, made[0].getModifiers(), "modifiers of the constructor");
        due.is(0, made[0].getParameterCount(), "parameters of the constructor");

        for (Class<?> inside : c.getDeclaredClasses()) {
            due.holds(Modifier.isStatic(inside.getModifiers()), inside + " is static");
            due.holds(!Modifier.isPublic(inside.getModifiers()) && !Modifier.isProtected(inside.getModifiers()), inside + " is private or of the package");
        }
        due.holds(c.getDeclaredClasses().length <= 12, "at most some twelve classes inside");
        due.end();
    }
}
