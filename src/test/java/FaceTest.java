import java.lang.reflect.Constructor;
import java.lang.reflect.Field;
import java.lang.reflect.Method;
import java.lang.reflect.Modifier;
import java.util.TreeSet;

/** The document's public face: all of it, and nothing else that is not private. */
public final class FaceTest {
    public static void main(String[] args) {
        Probe probe = new Probe("FaceTest");
        TreeSet<String> due = new TreeSet<>();
        for (String member : ("public static final int BAD; public SpecRunner(); boolean type(long,int); void clear();"
            + "int judge(); int place(); int run(); int iterations(); int status(int); int failedAt(int);"
            + "boolean second(int); int variable(int,int); int calls(int,int); int values(int); int column(int,int);"
            + "int value(int,int); int lines(int); int drawn(int,int,int)").split(";\\s*")) {
            due.add(member.startsWith("public") ? member : "public " + member);
        }
        TreeSet<String> found = new TreeSet<>();
        for (Field field : SpecRunner.class.getDeclaredFields()) {
            if (!Modifier.isPrivate(field.getModifiers())) {
                found.add(field.toGenericString().replace("SpecRunner.", ""));
            }
        }
        for (Constructor<?> constructor : SpecRunner.class.getDeclaredConstructors()) {
            found.add(constructor.toGenericString());
        }
        for (Method method : SpecRunner.class.getDeclaredMethods()) {
            if (!Modifier.isPrivate(method.getModifiers())) {
                found.add(method.toGenericString().replace("SpecRunner.", ""));
            }
        }
        probe.due("the face", String.join("\n", found), String.join("\n", due));
        probe.due("final", Modifier.isFinal(SpecRunner.class.getModifiers()), true);
        probe.finish();
    }
}
