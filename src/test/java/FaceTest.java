import java.lang.reflect.Constructor;
import java.lang.reflect.Field;
import java.lang.reflect.Method;
import java.lang.reflect.Modifier;
import java.util.List;
import java.util.Set;
import java.util.TreeSet;

/** The face is the document's, and nothing else is seen from outside (rule 1 of LANGUAGE.md). */
public final class FaceTest {
    private static final String INDEX = " IndexOutOfBoundsException";
    private static final String ARGUMENT = " IllegalArgumentException";
    private static final String FULL = " UnsupportedOperationException";
    private static final String MISSING = " NoSuchElementException";

    private static final List<String> FACE = List.of(
            "public int player()" + FULL,
            "public int rule(boolean)" + FULL,
            "public void part(int,int,boolean,int)" + INDEX + ARGUMENT,
            "public int deed(int,int,int,int)" + INDEX + ARGUMENT,
            "public int has(int,int)" + INDEX,
            "public long sum(int,boolean)" + INDEX,
            "public int single(int,boolean,int)" + INDEX + ARGUMENT + FULL,
            "public boolean put(int,int)" + INDEX,
            "public boolean take(int)" + INDEX,
            "public boolean give(int,int)" + INDEX,
            "public boolean lend(int,int,int)" + INDEX,
            "public int wear(int,int)" + INDEX + ARGUMENT,
            "public int days(int)" + ARGUMENT,
            "public int look(int,int)" + INDEX + MISSING,
            "public int line(int,int,boolean)" + INDEX,
            "public int offer(int,int,int,int,int,int,int,int)" + INDEX + ARGUMENT + FULL,
            "public int agree(int)" + INDEX,
            "public boolean withdraw(int)" + INDEX,
            "public boolean gains()",
            "public void times(int,int)" + INDEX + ARGUMENT,
            "public boolean earns()",
            "public void weigh(int,int)" + INDEX + ARGUMENT,
            "public boolean bars()",
            "public int count(int)");

    public static void main(String[] args) {
        Class<?> face = GoodsKeeper.class;
        Check.same("public and final", face.getModifiers(), Modifier.PUBLIC | Modifier.FINAL);
        Check.same("classes above it", face.getSuperclass() == Object.class, true);
        Check.same("interfaces of it", face.getInterfaces().length, 0);
        methods(face);
        fields(face);
        constructor(face);
        Check.end();
    }

    private static void methods(Class<?> face) {
        Set<String> seen = new TreeSet<>();
        Set<String> publicNames = new TreeSet<>();
        for (Method method : face.getDeclaredMethods()) {
            if (!Modifier.isPrivate(method.getModifiers())) {
                seen.add(textOf(method));
                publicNames.add(method.getName());
            }
        }
        for (String due : FACE) {
            Check.same("there is " + due, seen.remove(due), true);
        }
        for (String more : seen) {
            Check.note("the document does not have " + more);
        }
        privateNames(face, publicNames);
        for (Class<?> inner : face.getDeclaredClasses()) {
            int modifiers = inner.getModifiers();
            Check.same("static " + inner, Modifier.isStatic(modifiers), true);
            Check.same("open " + inner, Modifier.isPublic(modifiers) || Modifier.isProtected(modifiers), false);
            privateNames(inner, publicNames);
        }
    }

    private static void fields(Class<?> face) {
        int nones = 0;
        for (Field field : face.getDeclaredFields()) {
            if (field.getName().equals("NONE")) {
                nones++;
                Check.same("NONE's modifiers", field.getModifiers(),
                        Modifier.PUBLIC | Modifier.STATIC | Modifier.FINAL);
                Check.same("NONE is an int", field.getType() == int.class, true);
            } else {
                Check.same("private " + field, Modifier.isPrivate(field.getModifiers()), true);
            }
        }
        Check.same("fields of the name NONE", nones, 1);
        Check.same("NONE", GoodsKeeper.NONE, -1);
    }

    private static void constructor(Class<?> face) {
        Constructor<?>[] constructors = face.getDeclaredConstructors();
        Check.same("constructors", constructors.length, 1);
        Check.same("public constructor", Modifier.isPublic(constructors[0].getModifiers()), true);
        Check.same("its parameters", constructors[0].getParameterCount(), 0);
        Check.same("its exceptions", constructors[0].getExceptionTypes().length, 0);
    }

    private static void privateNames(Class<?> type, Set<String> publicNames) {
        for (Method method : type.getDeclaredMethods()) {
            if (!Modifier.isPublic(method.getModifiers()) && publicNames.contains(method.getName())) {
                Check.note("a method that is not public bears the name " + method.getName());
            }
        }
    }

    /** Modifiers, answer, name, parameters, and the exceptions in the order in which they are told. */
    private static String textOf(Method method) {
        StringBuilder text = new StringBuilder(Modifier.toString(method.getModifiers()));
        text.append(' ').append(method.getReturnType().getName());
        text.append(' ').append(method.getName()).append('(');
        String comma = "";
        for (Class<?> parameter : method.getParameterTypes()) {
            text.append(comma).append(parameter.getName());
            comma = ",";
        }
        text.append(')');
        for (Class<?> thrown : method.getExceptionTypes()) {
            text.append(' ').append(thrown.getSimpleName());
        }
        return text.toString();
    }
}
