import java.lang.reflect.Constructor;
import java.lang.reflect.Field;
import java.lang.reflect.Method;
import java.lang.reflect.Modifier;
import java.util.ArrayList;
import java.util.Arrays;
import java.util.List;

/** The class has the document's face and nothing beside it that others can see. */
public final class FaceTest {
    private static final String A = " IllegalArgumentException";
    private static final String S = " IllegalStateException";
    private static final String B = " IndexOutOfBoundsException";
    private static final String U = " UnsupportedOperationException";
    private static final String[] FACE = {
        "int advance(int,int)" + A,
        "int commit(int)" + A + S + B,
        "int count(int,int,int)" + A,
        "int delete(int,int)" + A + S + B,
        "int intention(int,int)" + A + B,
        "int put(int,int,long)" + A + S + B,
        "int verdict(int,int)" + A + B,
        "long get(int,int)" + A + S + U,
        "long look(int,int,int,int)" + A,
        "long part(int,int,int,int)" + A + S + B,
        "long state(int,int)" + A + U,
        "void abort(int)" + A + S,
        "void begin(int,int,int)" + A + S,
        "void restart(int)" + A + S,
    };

    public static void main(String[] args) {
        Due.due("modifiers", Modifier.PUBLIC | Modifier.FINAL, "" + MeldHost.class.getModifiers());
        Due.due("constructors", "[public MeldHost()]", constructors());
        Due.due("methods", Arrays.toString(FACE), methods().toString());
        for (Field field : MeldHost.class.getDeclaredFields()) {
            Due.due("field " + field.getName() + " is private", true, "" + Modifier.isPrivate(field.getModifiers()));
        }
        Due.end();
    }

    private static String constructors() {
        List<String> all = new ArrayList<>();
        for (Constructor<?> constructor : MeldHost.class.getDeclaredConstructors()) {
            all.add(constructor.toString());
        }
        return all.toString();
    }

    private static List<String> methods() {
        List<String> all = new ArrayList<>();
        for (Method method : MeldHost.class.getDeclaredMethods()) {
            if (!Modifier.isPrivate(method.getModifiers())) {
                all.add(text(method));
            }
        }
        all.sort(null);
        return all;
    }

    private static String text(Method method) {
        StringBuilder text = new StringBuilder(method.getReturnType().getSimpleName());
        text.append(' ').append(method.getName()).append('(');
        for (int i = 0; i < method.getParameterCount(); i++) {
            text.append(i == 0 ? "" : ",").append(method.getParameterTypes()[i].getSimpleName());
        }
        text.append(')');
        for (Class<?> thrown : method.getExceptionTypes()) {
            text.append(' ').append(thrown.getSimpleName());
        }
        return text.toString();
    }
}
