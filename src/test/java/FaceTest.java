import java.lang.reflect.Constructor;
import java.lang.reflect.Field;
import java.lang.reflect.Method;
import java.lang.reflect.Modifier;
import java.util.Arrays;
import java.util.Set;
import java.util.TreeSet;

/** The public face is the document's, and nothing else can be seen. */
public final class FaceTest {
    private static final String[] FACE = {
        "int feed(int,int,int,int,int)", "boolean end(int)", "int letter()IllegalArgumentException", "int fault()",
        "boolean part(int)IllegalStateException,IndexOutOfBoundsException",
        "boolean melt(int)IllegalStateException,IndexOutOfBoundsException",
        "boolean turn(int)IllegalStateException,IndexOutOfBoundsException",
        "boolean ease(int)IllegalStateException,IndexOutOfBoundsException",
        "int plainest()IllegalStateException", "void again()IllegalStateException",
        "int cost(boolean)IllegalStateException",
        "int look(int,int)IllegalStateException,IndexOutOfBoundsException,NoSuchElementException",
        "boolean same()IllegalStateException", "int write()IllegalStateException", "int taped(int)",
        "int ask(boolean,int,int,int)IllegalStateException", "int days(int,int,int)IllegalStateException",
        "int count(int)"
    };

    public static void main(String[] args) {
        Desk.due("public final", Modifier.toString(PlainWords.class.getModifiers()), "public final");
        Set<String> seen = new TreeSet<>();
        Set<String> hidden = new TreeSet<>();
        for (Method method : PlainWords.class.getDeclaredMethods()) {
            if (Modifier.isPrivate(method.getModifiers())) {
                hidden.add(method.getName());
            } else {
                seen.add(told(method));
            }
        }
        Desk.due("the methods", seen, new TreeSet<>(Arrays.asList(FACE)));
        for (Method method : PlainWords.class.getDeclaredMethods()) {
            boolean open = Modifier.isPublic(method.getModifiers());
            Desk.due(method.getName() + " is a hidden name too", open && hidden.contains(method.getName()), false);
        }
        for (Field field : PlainWords.class.getDeclaredFields()) {
            boolean open = !Modifier.isPrivate(field.getModifiers());
            Desk.due("field " + field.getName() + " can be seen", open, field.getName().equals("NONE"));
        }
        Constructor<?>[] constructors = PlainWords.class.getDeclaredConstructors();
        Desk.due("constructors", Arrays.toString(constructors), "[public PlainWords()]");
        Desk.due("NONE", PlainWords.NONE, -1);
        Desk.finish();
    }

    private static String told(Method method) {
        StringBuilder text = new StringBuilder(method.getReturnType() + " " + method.getName() + "(");
        text.append(names(method.getParameterTypes())).append(")").append(names(method.getExceptionTypes()));
        return text.toString();
    }

    private static String names(Class<?>[] types) {
        StringBuilder text = new StringBuilder();
        for (Class<?> type : types) {
            text.append(text.length() > 0 ? "," : "").append(type.getSimpleName());
        }
        return text.toString();
    }
}
