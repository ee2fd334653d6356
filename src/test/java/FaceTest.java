import java.lang.reflect.Constructor;
import java.lang.reflect.Field;
import java.lang.reflect.Member;
import java.lang.reflect.Method;
import java.lang.reflect.Modifier;
import java.util.Arrays;
import java.util.Set;
import java.util.TreeSet;

/** The public face of the document, and that the class shows nothing beside it. */
final class FaceTest {
    private static final Due DUE = new Due();
    private static final String A = " IllegalArgumentException";
    private static final String S = " IllegalStateException";
    private static final String I = " IndexOutOfBoundsException";
    private static final Set<String> METHODS = Set.of(
            "void begin 2" + A, "boolean wall 2" + A + S + I, "int opening 2" + A + S, "int limit 1" + A,
            "int area 0" + S, "int areaByStrips 0" + S, "int netArea 0" + S, "int rate 3" + A + S,
            "int price 2" + A, "int rateOf 1" + I, "int heading 1" + I + S, "int leaf 3" + I + A + S,
            "int items 0", "int take 2" + I + A + S, "int vary 2" + I + A + S, "int quantity 1" + I + S,
            "long sum 1" + I, "long total 0", "int dearest 1" + I, "int done 2" + I + A + S,
            "int retention 1" + A, "long worth 0", "long due 0", "long claim 0" + S, "long claimed 0");
    private static final Set<String> CONSTANTS = Set.of("NONE=-1", "EAST=0", "NORTH=1", "WEST=2", "SOUTH=3",
            "LABOUR=0", "PLANT=1", "MATERIAL=2");

    public static void main(String[] args) throws IllegalAccessException {
        Class<TakeoffSheet> sheet = TakeoffSheet.class;
        DUE.says("the class is final", true, Modifier.isFinal(sheet.getModifiers()));
        methods(sheet);
        constants(sheet);
        Constructor<?>[] made = sheet.getDeclaredConstructors();
        DUE.says("one constructor, public, without parameters", true, made.length == 1
                && Modifier.isPublic(made[0].getModifiers()) && made[0].getParameterCount() == 0);
        for (Class<?> inside : sheet.getDeclaredClasses()) {
            DUE.says(inside + " is static and not public", true, Modifier.isStatic(inside.getModifiers())
                    && !Modifier.isPublic(inside.getModifiers()) && !Modifier.isProtected(inside.getModifiers()));
        }
        DUE.end("FaceTest");
    }

    private static void methods(Class<?> sheet) {
        Set<String> found = new TreeSet<>();
        for (Method method : sheet.getDeclaredMethods()) {
            if (isShown(method)) {
                found.add(told(method));
            }
        }
        DUE.says("the methods are those of the document, not " + found, true, found.equals(METHODS));
    }

    private static String told(Method method) {
        StringBuilder told = new StringBuilder();
        told.append(method.getReturnType()).append(' ').append(method.getName());
        told.append(' ').append(method.getParameterCount());
        for (Class<?> thrown : method.getExceptionTypes()) {
            told.append(' ').append(thrown.getSimpleName());
        }
        boolean ints = Arrays.stream(method.getParameterTypes()).allMatch(type -> type == int.class);
        boolean plain = ints && Modifier.isPublic(method.getModifiers()) && !Modifier.isStatic(method.getModifiers());
        return plain ? told.toString() : "not as the document has it: " + told;
    }

    private static void constants(Class<?> sheet) throws IllegalAccessException {
        Set<String> found = new TreeSet<>();
        for (Field field : sheet.getDeclaredFields()) {
            boolean constant = Modifier.isStatic(field.getModifiers()) && Modifier.isFinal(field.getModifiers());
            if (isShown(field)) {
                found.add(field.getName() + "=" + (constant ? field.get(null) : "no constant"));
            }
        }
        DUE.says("the constants are those of the document, not " + found, true, found.equals(CONSTANTS));
    }

    private static boolean isShown(Member member) {
        return !Modifier.isPrivate(member.getModifiers()) && !member.isSynthetic();
    }
}
