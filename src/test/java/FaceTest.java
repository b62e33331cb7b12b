import java.lang.reflect.Constructor;
import java.lang.reflect.Field;
import java.lang.reflect.Member;
import java.lang.reflect.Method;
import java.lang.reflect.Modifier;
import java.util.ArrayList;
import java.util.Arrays;
import java.util.List;
import java.util.TreeSet;

/** Promises 1 to 19: the public face as the document writes it, and nothing beside it that is not private. */
public final class FaceTest {
    private static final String IAE = "IllegalArgumentException", IOO = "IndexOutOfBoundsException",
        UOE = "UnsupportedOperationException";
    private static final String[] METHODS = {
        "int level 3 " + IAE + " " + IOO + " " + UOE,
        "boolean atMost 2 " + IOO,
        "int value 4 " + IOO + " " + IAE,
        "int sort 1 " + IOO + " " + UOE,
        "int variable 1 " + IAE + " " + UOE,
        "int name 3 " + IOO + " " + UOE,
        "int term 3 " + IAE + " " + IOO + " " + UOE,
        "int let 3 " + IOO + " " + UOE,
        "int type 1 " + IOO + " " + UOE,
        "int normal 1 " + IOO + " " + UOE,
        "int steps 1 " + IOO,
        "int same 2 " + IOO,
        "int declare 3 " + IAE + " " + IOO + " " + UOE,
        "int part 2 " + IOO + " " + IAE,
        "int levelPart 2 " + IOO + " " + IAE,
        "int declared 2 " + IOO + " " + IAE,
        "int told 1",
        "void clear 0"};
    private static final String[] CONSTANTS = {"NONE=-1", "OUT=-6", "ZERO=0", "UP=1", "MAX=2", "IMAX=3", "PARAMETER=4",
        "SORT=0", "VARIABLE=1", "NAME=2", "PI=3", "LAMBDA=4", "APPLY=5", "LET=6"};
    private static int passed, failed;

    public static void main(String[] args) throws IllegalAccessException {
        Class<?> face = TypeKernel.class;
        due("modifiers", Modifier.toString(face.getModifiers()), "public final");
        List<String> methods = new ArrayList<>();
        TreeSet<String> publicNames = new TreeSet<>(), privateNames = new TreeSet<>();
        for (Method m : face.getDeclaredMethods()) {
            if (!isShown(m)) {
                privateNames.add(m.getName());
                continue;
            }
            publicNames.add(m.getName());
            StringBuilder s = new StringBuilder(m.getReturnType() + " " + m.getName() + " " + m.getParameterCount());
            for (Class<?> e : m.getExceptionTypes()) s.append(' ').append(e.getSimpleName());
            methods.add(s.toString());
            for (Class<?> p : m.getParameterTypes()) due(m.getName() + " takes", p, int.class);
            due(m.getName() + "'s modifiers", Modifier.toString(m.getModifiers()), "public");
        }
        due("the methods", new TreeSet<>(methods), new TreeSet<>(Arrays.asList(METHODS)));
        privateNames.retainAll(publicNames);
        due("private methods with a public one's name", privateNames, new TreeSet<String>());
        TreeSet<String> constants = new TreeSet<>();
        for (Field f : face.getDeclaredFields()) {
            if (!isShown(f)) continue;
            due(f.getName() + "'s modifiers", Modifier.toString(f.getModifiers()), "public static final");
            constants.add(f.getName() + "=" + f.getInt(null));
        }
        due("the constants", constants, new TreeSet<>(Arrays.asList(CONSTANTS)));
        Constructor<?>[] constructors = face.getDeclaredConstructors();
        due("constructors", constructors.length, 1);
        due("the constructor", constructors[0].toString(), "public TypeKernel()");
        for (Class<?> c : face.getDeclaredClasses()) {
            int m = c.getModifiers();
            due(c.getSimpleName() + " is static and not public", Modifier.isStatic(m) && !Modifier.isPublic(m), true);
        }
        System.out.println(passed + " passed, " + failed + " failed");
        if (failed > 0) System.exit(1);
    }

    private static boolean isShown(Member m) {
        return !Modifier.isPrivate(m.getModifiers()) && !m.isSynthetic();
    }

    private static void due(String what, Object got, Object want) {
        if (got.equals(want)) {
            passed++;
            return;
        }
        failed++;
        System.out.println(what + ": " + got + ", due is " + want);
    }
}
