import java.lang.reflect.Constructor;
import java.lang.reflect.Field;
import java.lang.reflect.Method;
import java.lang.reflect.Modifier;
import java.util.Set;
import java.util.TreeSet;

/** The face is the document's, and nothing else is seen from outside (rule 1 of LANGUAGE.md). */
public final class FaceTest {
    private static final Set<String> FACE = Set.of(
            "int player()", "int rule(boolean)", "void part(int,int,boolean,int)", "int deed(int,int,int,int)",
            "int has(int,int)", "long sum(int,boolean)", "int single(int,boolean,int)", "boolean put(int,int)",
            "boolean take(int)", "boolean give(int,int)", "boolean lend(int,int,int)", "int wear(int,int)",
            "int days(int)", "int look(int,int)", "int line(int,int,boolean)",
            "int offer(int,int,int,int,int,int,int,int)", "int agree(int)", "boolean withdraw(int)",
            "boolean gains()", "void times(int,int)", "boolean earns()", "void weigh(int,int)", "boolean bars()",
            "int count(int)");

    public static void main(String[] args) {
        Class<?> face = GoodsKeeper.class;
        Check.same("public and final", face.getModifiers(), Modifier.PUBLIC | Modifier.FINAL);
        Set<String> seen = new TreeSet<>();
        Set<String> publicNames = new TreeSet<>();
        for (Method method : face.getDeclaredMethods()) {
            if (!Modifier.isPrivate(method.getModifiers())) {
                seen.add(textOf(method));
                publicNames.add(method.getName());
            }
        }
        if (!seen.equals(FACE)) {
            Check.note("the face is " + seen);
        }
        privateNames(face, publicNames);
        for (Class<?> inner : face.getDeclaredClasses()) {
            Check.same("static " + inner, Modifier.isStatic(inner.getModifiers()), true);
            privateNames(inner, publicNames);
        }
        for (Field field : face.getDeclaredFields()) {
            boolean isNone = field.getName().equals("NONE");
            Check.same("private " + field, Modifier.isPrivate(field.getModifiers()), !isNone);
        }
        Constructor<?>[] constructors = face.getDeclaredConstructors();
        Check.same("constructors", constructors.length, 1);
        Check.same("public constructor", Modifier.isPublic(constructors[0].getModifiers()), true);
        Check.same("its parameters", constructors[0].getParameterCount(), 0);
        Check.end();
    }

    private static void privateNames(Class<?> type, Set<String> publicNames) {
        for (Method method : type.getDeclaredMethods()) {
            if (!Modifier.isPublic(method.getModifiers()) && publicNames.contains(method.getName())) {
                Check.note("a method that is not public bears the name " + method.getName());
            }
        }
    }

    private static String textOf(Method method) {
        StringBuilder text = new StringBuilder(method.getReturnType().getName());
        text.append(' ').append(method.getName()).append('(');
        String comma = "";
        for (Class<?> parameter : method.getParameterTypes()) {
            text.append(comma).append(parameter.getName());
            comma = ",";
        }
        return text.append(')').toString();
    }
}
