import java.io.IOException;
import java.lang.reflect.Method;
import java.lang.reflect.Modifier;
import java.nio.file.Files;
import java.nio.file.Path;

/** The example of README.md answers what is written there, and every call is named in it. */
public final class ReadmeTest {
    private static final Check C = new Check();

    public static void main(String[] args) throws IOException {
        theExample();
        everyCallIsNamed(Files.readString(Path.of("README.md")));
        C.end();
    }

    /** The same calls as there. */
    private static void theExample() {
        SpillQueue q = new SpillQueue();
        q.format(30, 12, 4, 2);
        C.due("insert(5)", q.insert(5), 0);
        C.due("insert(3)", q.insert(3), 0);
        C.due("sync()", q.sync(), 0);
        C.due("insert(1)", q.insert(1), 0);
        C.due("min()", q.min(), 1);
        q.cut();
        C.due("size()", q.size(), 0);
        C.due("recover()", q.recover(), 2);
        C.due("take()", q.take(), 3);
        C.due("min()", q.min(), 5);
        q.cutAt(1);
        C.due("sync()", q.sync(), -9);
        C.due("recover()", q.recover(), 2);
        C.due("take()", q.take(), 3);
    }

    private static void everyCallIsNamed(String readme) {
        for (Method method : SpillQueue.class.getDeclaredMethods()) {
            boolean named = readme.contains("`" + method.getName() + "(");
            if (Modifier.isPublic(method.getModifiers()) && !named) {
                C.say("README.md does not name " + method.getName() + "()");
            }
        }
    }
}
