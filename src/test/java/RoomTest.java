import com.sun.management.ThreadMXBean;
import java.lang.management.ManagementFactory;

/** What one object makes in 512 of its dearest calls stays far below the room of 7.3 million elements. */
public final class RoomTest {
    private static final ThreadMXBean BEAN = (ThreadMXBean) ManagementFactory.getThreadMXBean();
    private static final long MOST_BYTES = 8_000_000;

    public static void main(String[] args) {
        String p31 = Texts.sized(31);
        String base = Texts.QP + "type S struct{" + Texts.list(6, "f# Any;", "") + "} func(x P[a,b])n()P[a,b]{return x} ";
        StringBuilder wide = new StringBuilder(base);
        for (int i = 0; wide.length() < 3700; i++) {
            wide.append("func(x A)k").append(i).append("(y ").append(p31).append(")Any{return y").append(".n()".repeat(20)).append("} ");
        }
        room("programs with many types", wide + Texts.MAIN, 0);
        String six = "S{y,y,y,y,y,y}";
        room("runs with many values", base + "func(x A)b(y Any)Any{return S{" + Texts.list(6, six, ",") + "}} "
            + "func(x A)m()A{return x.k(x.b(x))} func(x A)k(y Any)A{return x} func(x A)t()A{return x" + ".m()".repeat(20)
            + "} main A{}" + ".t()".repeat(20) + ";", 5000);
        room("runs with great types", base + "func(x A)g[p Any]()A{return x.h[P[p,p]]().h[P[p,p]]()} func(x A)h[p Any]()A{return x} "
            + "func(x A)t()A{return x" + (".g[" + Texts.sized(29) + "]()").repeat(20) + "} main A{}" + ".t()".repeat(20) + ";", 5000);
        Due.end();
    }

    private static long made() {
        return BEAN.getThreadAllocatedBytes(Thread.currentThread().getId());
    }

    private static void room(String what, String text, int steps) {
        long[] tape = new long[(text.length() + 23) / 24 * 3];
        for (int i = 0; i < 8 * tape.length; i++) {
            tape[i / 8] = tape[i / 8] << 8 | (i < text.length() ? text.charAt(i) : 0);
        }
        made();
        long from = made();
        FeatherBench x = new FeatherBench();
        int calls = 0;
        int fault = 0;
        for (int round = 0; round < 512; round++) {
            for (int i = 0; i < tape.length && calls < 512; i += 3, calls++) {
                x.feed(tape[i], tape[i + 1], tape[i + 2]);
            }
            if (calls < 500) {
                fault |= x.program();
                x.instances();
                x.run(steps);
                x.run(steps);
                x.print(1);
                calls += 5;
            }
        }
        long bytes = made() - from;
        Due.same(what, fault, 0);
        Due.same(what + ": bytes", bytes < MOST_BYTES ? 1 : bytes, 1);
    }
}
