import java.lang.reflect.Constructor;
import java.lang.reflect.Field;
import java.lang.reflect.Method;
import java.lang.reflect.Modifier;
import java.util.Arrays;
import java.util.Set;
import java.util.TreeSet;

/** The public face, whole and nothing beside it, and no state that objects share. */
public final class FaceTest {
    private static final String THROWS = " throws java.lang.IllegalArgumentException";
    private static final Set<String> METHODS = Set.of(
        "public void KeccakLanes.clear(int)" + THROWS,
        "public int KeccakLanes.take(int,long,int)" + THROWS,
        "public int KeccakLanes.fill(int,int,int,int)" + THROWS,
        "public void KeccakLanes.copy(int,int)" + THROWS,
        "public void KeccakLanes.mix(int)" + THROWS,
        "public long KeccakLanes.lane(int,int)" + THROWS,
        "public long KeccakLanes.digest(int,int)" + THROWS);

    public static void main(String[] args) throws IllegalAccessException {
        Checks checks = new Checks();
        checks.due("the class's modifiers", KeccakLanes.class.getModifiers(), Modifier.PUBLIC | Modifier.FINAL);
        checks.isTrue("the class is in no package", KeccakLanes.class.getPackageName().isEmpty());
        constructors(checks);
        methods(checks);
        fields(checks);
        staticRowsStay(checks);
        checks.end();
    }

    private static void constructors(Checks checks) {
        Constructor<?>[] all = KeccakLanes.class.getDeclaredConstructors();
        checks.isTrue("the constructors are " + Arrays.toString(all),
            all.length == 1 && all[0].toString().equals("public KeccakLanes()"));
    }

    private static void methods(Checks checks) {
        Set<String> seen = new TreeSet<>();
        Set<String> names = new TreeSet<>();
        for (Method method : KeccakLanes.class.getDeclaredMethods()) {
            if (!Modifier.isPrivate(method.getModifiers())) {
                seen.add(method.toString());
                names.add(method.getName());
            }
        }
        checks.isTrue("the methods that are not private are " + seen, seen.equals(METHODS));
        for (Method method : KeccakLanes.class.getDeclaredMethods()) {
            checks.isTrue(method + " bears a public method's name only if it is public",
                !Modifier.isPrivate(method.getModifiers()) || !names.contains(method.getName()));
        }
    }

    private static void fields(Checks checks) {
        for (Field field : KeccakLanes.class.getDeclaredFields()) {
            int modifiers = field.getModifiers();
            checks.isTrue(field + " is private", Modifier.isPrivate(modifiers));
            checks.isTrue(field + " is final if it is static",
                !Modifier.isStatic(modifiers) || Modifier.isFinal(modifiers));
        }
    }

    /** Rule 5 of LANGUAGE.md: a static row is written out and never changed, so objects share nothing that moves. */
    private static void staticRowsStay(Checks checks) throws IllegalAccessException {
        String before = staticValues();
        KeccakLanes x = Checks.busy();
        x.copy(1, 2);
        x.digest(3, 1);
        x.clear(4);
        checks.isTrue("static fields stay while an object is used", staticValues().equals(before));
    }

    private static String staticValues() throws IllegalAccessException {
        StringBuilder values = new StringBuilder();
        for (Field field : KeccakLanes.class.getDeclaredFields()) {
            if (Modifier.isStatic(field.getModifiers())) {
                field.setAccessible(true);
                values.append(field.getName()).append(Arrays.deepToString(new Object[] {field.get(null)}));
            }
        }
        return values.toString();
    }
}
