import java.lang.reflect.Constructor;
import java.lang.reflect.Field;
import java.lang.reflect.Method;
import java.lang.reflect.Modifier;
import java.util.ArrayList;
import java.util.Arrays;
import java.util.List;

/** The class has the document's face and nothing beside it that others can see, by LANGUAGE.md, rules 1 and 5. */
public final class FaceTest {
    private static final String A = " IllegalArgumentException";
    private static final String S = " IllegalStateException";
    private static final String B = " IndexOutOfBoundsException";
    private static final String U = " UnsupportedOperationException";
    private static final String[] FACE = {
        "int advance(int,int)" + A,
        "int commit(int)" + A + S + B,
        "int count(int,int,int)" + A,
        "int delete(int,int)" + A + S + B,
        "int intention(int,int)" + A + B,
        "int put(int,int,long)" + A + S + B,
        "int verdict(int,int)" + A + B,
        "long get(int,int)" + A + S + U,
        "long look(int,int,int,int)" + A,
        "long part(int,int,int,int)" + A + S + B,
        "long state(int,int)" + A + U,
        "void abort(int)" + A + S,
        "void begin(int,int,int)" + A + S,
        "void restart(int)" + A + S,
    };

    public static void main(String[] args) {
        Due.due("modifiers", Modifier.PUBLIC | Modifier.FINAL, "" + MeldHost.class.getModifiers());
        Due.due("constructors", "[public MeldHost()]", constructors());
        Due.due("methods", Arrays.toString(FACE), methods().toString());
        for (Field field : MeldHost.class.getDeclaredFields()) {
            Due.due("field " + field.getName() + " is private", true, "" + Modifier.isPrivate(field.getModifiers()));
        }
        noPrivateMethodBearsAPublicName(MeldHost.class);
        staticFieldsAreFinal(MeldHost.class);
        for (Class<?> inside : MeldHost.class.getDeclaredClasses()) {
            classInside(inside);
        }
        Due.end();
    }

    /** LANGUAGE.md, rule 1: classes inside are private or package-visible, and static. */
    private static void classInside(Class<?> inside) {
        int modifiers = inside.getModifiers();
        boolean isShown = Modifier.isPublic(modifiers) || Modifier.isProtected(modifiers);
        Due.due(inside + " is static and not shown", true, "" + (Modifier.isStatic(modifiers) && !isShown));
        noPrivateMethodBearsAPublicName(inside);
        staticFieldsAreFinal(inside);
    }

    /** LANGUAGE.md, rule 1. */
    private static void noPrivateMethodBearsAPublicName(Class<?> owner) {
        for (Method method : owner.getDeclaredMethods()) {
            boolean bears = Arrays.stream(FACE).anyMatch(f -> f.contains(" " + method.getName() + "("));
            boolean isOfTheFace = owner == MeldHost.class && Modifier.isPublic(method.getModifiers());
            Due.due(owner + ", " + method.getName() + " bears a public name", isOfTheFace, "" + bears);
        }
    }

    /** LANGUAGE.md, rule 5. */
    private static void staticFieldsAreFinal(Class<?> owner) {
        for (Field field : owner.getDeclaredFields()) {
            boolean isFree = !Modifier.isStatic(field.getModifiers()) || Modifier.isFinal(field.getModifiers());
            Due.due(owner + ", " + field.getName() + " is no static that changes", true, "" + isFree);
        }
    }

    private static String constructors() {
        List<String> all = new ArrayList<>();
        for (Constructor<?> constructor : MeldHost.class.getDeclaredConstructors()) {
            all.add(constructor.toString());
        }
        return all.toString();
    }

    private static List<String> methods() {
        List<String> all = new ArrayList<>();
        for (Method method : MeldHost.class.getDeclaredMethods()) {
            if (!Modifier.isPrivate(method.getModifiers())) {
                all.add(text(method));
            }
        }
        all.sort(null);
        return all;
    }

    private static String text(Method method) {
        StringBuilder text = new StringBuilder(method.getReturnType().getSimpleName());
        text.append(' ').append(method.getName()).append('(');
        for (int i = 0; i < method.getParameterCount(); i++) {
            text.append(i == 0 ? "" : ",").append(method.getParameterTypes()[i].getSimpleName());
        }
        text.append(')');
        for (Class<?> thrown : method.getExceptionTypes()) {
            text.append(' ').append(thrown.getSimpleName());
        }
        return text.toString();
    }
}
