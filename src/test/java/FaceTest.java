import java.lang.reflect.Constructor;
import java.lang.reflect.Field;
import java.lang.reflect.Method;
import java.lang.reflect.Modifier;
import java.util.ArrayList;
import java.util.Arrays;
import java.util.Collections;
import java.util.HashSet;
import java.util.List;
import java.util.Set;

/** The face is that of the document, and nothing else of the class can be seen. */
public final class FaceTest {
    private static final List<String> DUE = Arrays.asList(
            "void format(int, int, int, int) IllegalArgumentException",
            "int insert(int) IllegalStateException IllegalArgumentException",
            "int min() IllegalStateException",
            "int take() IllegalStateException",
            "int sync() IllegalStateException",
            "void cutAt(int) IllegalStateException IllegalArgumentException",
            "void cut() IllegalStateException",
            "int recover() IllegalStateException",
            "int size()",
            "int run(int, int) IllegalStateException IndexOutOfBoundsException",
            "int about(int) IndexOutOfBoundsException",
            "int word(int, int) IndexOutOfBoundsException",
            "void spoil(int, int, int) IllegalStateException IndexOutOfBoundsException");

    public static void main(String[] args) {
        Check c = new Check();
        Class<?> face = SpillQueue.class;
        c.due("modifiers", face.getModifiers(), Modifier.PUBLIC | Modifier.FINAL);
        methodsAreDue(c, face);
        Constructor<?>[] constructors = face.getDeclaredConstructors();
        c.due("constructors", constructors.length, 1);
        c.due("its modifiers", constructors[0].getModifiers(), Modifier.PUBLIC);
        c.due("its parameters", constructors[0].getParameterCount(), 0);
        for (Field field : face.getDeclaredFields()) {
            if (!Modifier.isPrivate(field.getModifiers())) {
                c.say("field " + field.getName() + " can be seen");
            }
        }
        for (Class<?> inside : face.getDeclaredClasses()) {
            if (!Modifier.isStatic(inside.getModifiers())) {
                c.say(inside.getName() + " is not static");
            }
        }
        noStaticState(c, face);
        for (Class<?> inside : face.getDeclaredClasses()) {
            noStaticState(c, inside);
        }
        c.end();
    }

    private static void methodsAreDue(Check c, Class<?> face) {
        List<String> seen = new ArrayList<>();
        Set<String> faceNames = new HashSet<>();
        for (Method method : face.getDeclaredMethods()) {
            if (Modifier.isPublic(method.getModifiers())) {
                seen.add(written(method));
                faceNames.add(method.getName());
                c.due(method.getName() + "'s modifiers", method.getModifiers(), Modifier.PUBLIC);
            }
        }
        for (Method method : face.getDeclaredMethods()) {
            if (!Modifier.isPublic(method.getModifiers())) {
                if (!Modifier.isPrivate(method.getModifiers())) {
                    c.say(method.getName() + " can be seen");
                }
                if (faceNames.contains(method.getName())) {
                    c.say("a private " + method.getName());
                }
            }
        }
        List<String> due = new ArrayList<>(DUE);
        Collections.sort(due);
        Collections.sort(seen);
        if (!due.equals(seen)) {
            c.say("the face is " + seen + ", due is " + due);
        }
    }

    private static String written(Method method) {
        StringBuilder text = new StringBuilder();
        text.append(method.getReturnType().getSimpleName()).append(' ').append(method.getName());
        String separator = "(";
        for (Class<?> parameter : method.getParameterTypes()) {
            text.append(separator).append(parameter.getSimpleName());
            separator = ", ";
        }
        text.append(method.getParameterCount() == 0 ? "()" : ")");
        for (Class<?> exception : method.getExceptionTypes()) {
            text.append(' ').append(exception.getSimpleName());
        }
        return text.toString();
    }

    private static void noStaticState(Check c, Class<?> type) {
        for (Field field : type.getDeclaredFields()) {
            int modifiers = field.getModifiers();
            if (Modifier.isStatic(modifiers) && !Modifier.isFinal(modifiers)) {
                c.say(type.getName() + "." + field.getName() + " is static and not final");
            }
        }
    }
}
