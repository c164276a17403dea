import java.lang.reflect.Constructor;
import java.lang.reflect.Executable;
import java.lang.reflect.Field;
import java.lang.reflect.Method;
import java.lang.reflect.Modifier;
import java.util.Set;
import java.util.TreeSet;

/** The public face: the constant, the constructor and the methods of the document, no others. */
public final class FaceTest {
    private static final String[] METHODS = {
        "boolean fits(int,int)",
        "boolean put(int,int)",
        "int check() throws IllegalArgumentException",
        "int checkedCost()",
        "int complete(int,int) throws IllegalArgumentException",
        "int declare() throws IllegalArgumentException,IllegalStateException",
        "int letter(int,int)",
        "int members(int)",
        "int proposal(int,int)",
        "int seen(int,int)",
        "int variable() throws IllegalArgumentException,IllegalStateException",
        "void enter(int) throws IllegalArgumentException",
        "void forget()",
    };

    public static void main(String[] args) {
        Verdict verdict = new Verdict();
        verdict.due("NONE", ChainDesk.NONE, -1);
        verdict.due("the class", Modifier.toString(ChainDesk.class.getModifiers()), "public final");
        verdict.due("methods", openMethods(), new TreeSet<>(Set.of(METHODS)));
        verdict.due("fields", openFields(), new TreeSet<>(Set.of("public static final int NONE")));
        verdict.due("constructors", ChainDesk.class.getDeclaredConstructors().length, 1);
        for (Constructor<?> constructor : ChainDesk.class.getConstructors()) {
            verdict.due("the constructor", constructor.getParameterCount(), 0);
        }
        for (Class<?> inside : ChainDesk.class.getDeclaredClasses()) {
            int modifiers = inside.getModifiers();
            verdict.due("static " + inside, Modifier.isStatic(modifiers), true);
            verdict.due("open " + inside, Modifier.isPublic(modifiers) || Modifier.isProtected(modifiers), false);
        }
        verdict.end();
    }

    private static Set<String> openMethods() {
        Set<String> all = new TreeSet<>();
        for (Method method : ChainDesk.class.getDeclaredMethods()) {
            if (!Modifier.isPrivate(method.getModifiers()) && !method.isSynthetic()) {
                all.add(method.getReturnType() + " " + method.getName() + names(method.getParameterTypes(), "(", ")")
                        + thrown(method));
            }
        }
        return all;
    }

    private static Set<String> openFields() {
        Set<String> all = new TreeSet<>();
        for (Field field : ChainDesk.class.getDeclaredFields()) {
            if (!Modifier.isPrivate(field.getModifiers()) && !field.isSynthetic()) {
                all.add(field.toString().replace("ChainDesk.", ""));
            }
        }
        return all;
    }

    private static String thrown(Executable method) {
        Class<?>[] types = method.getExceptionTypes();
        return types.length == 0 ? "" : names(types, " throws ", "");
    }

    private static String names(Class<?>[] types, String before, String behind) {
        StringBuilder text = new StringBuilder(before);
        for (int i = 0; i < types.length; i++) {
            text.append(i == 0 ? "" : ",").append(types[i].getSimpleName());
        }
        return text.append(behind).toString();
    }
}
