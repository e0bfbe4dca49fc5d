import java.lang.reflect.Constructor;
import java.lang.reflect.Field;
import java.lang.reflect.Method;
import java.lang.reflect.Modifier;
import java.util.Set;
import java.util.TreeSet;

/** The class has the document's face and nothing else that can be seen. */
public final class FaceTest {
    public static void main(String[] args) {
        Checks c = new Checks("FaceTest");
        c.due("public final", Modifier.toString(StepWalk.class.getModifiers()).equals("public final"), true);
        c.due("NONE", StepWalk.NONE, -1);
        c.due("FULL", StepWalk.FULL, -2);
        Set<String> want = new TreeSet<>(Set.of(
                "int leaf(int,long)", "int node(int,int,int,int)", "boolean signal(int,long)", "int start(int)",
                "int tick(int)", "long output(int)", "int step(int)", "int alarm(int,int)", "boolean answer(long)",
                "boolean hold(boolean)"));
        want.addAll(Set.of("int stop()", "int closed(int)", "long value(int)", "boolean safe(int,long)",
                "field NONE", "field FULL", "new()"));
        Set<String> got = seen();
        for (String face : want) {
            c.due(face + " is there", got.contains(face), true);
        }
        for (String face : got) {
            c.due(face + " is of the document", want.contains(face), true);
        }
        c.end();
    }

    private static Set<String> seen() {
        Set<String> got = new TreeSet<>();
        for (Method m : StepWalk.class.getDeclaredMethods()) {
            if (!Modifier.isPrivate(m.getModifiers()) && !m.isSynthetic()) {
                got.add(m.getReturnType().getName() + " " + m.getName() + types(m.getParameterTypes()));
            }
        }
        for (Field f : StepWalk.class.getDeclaredFields()) {
            if (!Modifier.isPrivate(f.getModifiers()) && !f.isSynthetic()) {
                got.add("field " + f.getName());
            }
        }
        for (Constructor<?> k : StepWalk.class.getDeclaredConstructors()) {
            got.add("new" + types(k.getParameterTypes()));
        }
        return got;
    }

    private static String types(Class<?>[] types) {
        StringBuilder text = new StringBuilder("(");
        for (Class<?> type : types) {
            text.append(text.length() > 1 ? "," : "").append(type.getName());
        }
        return text.append(')').toString();
    }
}
