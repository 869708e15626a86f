import java.lang.reflect.Constructor;
import java.lang.reflect.Field;
import java.lang.reflect.Method;
import java.lang.reflect.Modifier;
import java.util.Arrays;
import java.util.Set;
import java.util.TreeSet;

/** The public face: what can be seen from outside is what the document tells, and no more. */
public final class FaceTest {
    public static void main(String[] args) {
        Class<?> face = FeatherBench.class;
        Due.same("modifiers", face.getModifiers(), Modifier.PUBLIC | Modifier.FINAL);
        Set<String> seen = new TreeSet<>();
        for (Method m : face.getDeclaredMethods()) {
            if (!Modifier.isPrivate(m.getModifiers())) {
                String types = Arrays.toString(m.getParameterTypes());
                String name = m.getReturnType() + " " + m.getName();
                seen.add(Modifier.toString(m.getModifiers()) + " " + name + types);
            }
        }
        for (Field f : face.getDeclaredFields()) {
            if (!Modifier.isPrivate(f.getModifiers())) {
                seen.add(Modifier.toString(f.getModifiers()) + " " + f.getType() + " " + f.getName());
            }
        }
        for (Constructor<?> c : face.getDeclaredConstructors()) {
            seen.add(Modifier.toString(c.getModifiers()) + " new" + Arrays.toString(c.getParameterTypes()));
        }
        Set<String> due = new TreeSet<>(Set.of(
            "public static final int NONE", "public new[]",
            "public int feed[long, long, long]", "public int program[]", "public int implementing[]",
            "public int run[int]", "public int failed[]", "public int calls[]",
            "public int instances[]", "public int made[int]", "public int isMade[]"));
        due.addAll(Set.of("public int print[int]", "public int out[int]", "public int count[int]"));
        Due.same("face", seen.toString(), due.toString());
        Due.same("NONE", FeatherBench.NONE, -1);
        for (Class<?> inner : face.getDeclaredClasses()) {
            boolean fits = Modifier.isStatic(inner.getModifiers()) && !Modifier.isPublic(inner.getModifiers())
                && !Modifier.isProtected(inner.getModifiers());
            Due.same(inner.getName() + " is static and hidden", fits ? 1 : 0, 1);
        }
        Due.end();
    }
}
