import java.util.Random;

/** Whatever is called in whatever state: every call ends, throws nothing, and answers within its range. */
public final class RandomTest {
    private static final String[] PIECES = {"type ", "struct", "interface", "func", "return ", "main ", "{", "}",
        "(", ")", "[", "]", ",", ";", ".", "A", "B ", "I", "x ", "y", "f ", "m", "a ", " ", "\n", "9", "#"};
    private static final String WHOLE = "type Any interface{} type A struct{} type B[a Any] struct{f a;g I[a];} "
        + "type I[a Any] interface{m(x a)a;n[b I[a]](y b)B[b];} func(x A)m(y A)A{return x} "
        + "func(x A)n[b I[A]](y b)B[b]{return x.n[b](y)} func(x B[a])m(y B[a])a{return x.g.m(x.f)} "
        + "func(x A)up[p Any]()Any{return x.up[B[p]]()} func(x A)k(y Any)A{return y.(A)} "
        + "main B[A]{A{},A{}}.m(B[A]{A{}.k(A{}),A{}});";

    public static void main(String[] args) {
        for (int seed = 0; seed < 400; seed++) {
            session(new Random(seed));
        }
        Due.same("the whole one", Due.fresh().program(WHOLE), 0);
        Due.end();
    }

    private static void session(Random random) {
        Due d = Due.fresh();
        for (int i = 0; i < 512; i++) {
            int what = random.nextInt(12);
            int number = random.nextInt(4) == 0 ? random.nextInt() : random.nextInt(100) - 5;
            switch (what) {
                case 0:
                    d.feed(soup(random));
                    within("feed", d.bench.feed(random.nextLong(), random.nextLong(), random.nextLong()), 0, 4000);
                    break;
                case 1:
                    d.feed(changed(random));
                    within("program", d.bench.program(), 0, 9 + 16 * 4000);
                    break;
                case 2:
                    d.feed(random.nextBoolean() ? "B[A];I[A]" : soup(random));
                    within("implementing", d.bench.implementing(), -2, 1);
                    break;
                case 3:
                    within("run", d.bench.run(number), -1, 4);
                    break;
                case 4:
                    within("failed", d.bench.failed(), -1, 4000);
                    break;
                case 5:
                    within("calls", d.bench.calls(), 0, 5000);
                    break;
                case 6:
                    within("instances", d.bench.instances(), -1, 150);
                    break;
                case 7:
                    within("made", d.bench.made(number % 4), -1, 150);
                    break;
                case 8:
                    d.feed(random.nextBoolean() ? "B[A]" : soup(random));
                    within("isMade", d.bench.isMade(), -3, 1);
                    break;
                case 9:
                    within("print", d.bench.print(number % 3), -1, 2000);
                    break;
                case 10:
                    within("out", d.bench.out(number), -1, 126);
                    break;
                default:
                    within("count", d.bench.count(number % 7), -1, 60000);
                    break;
            }
        }
    }

    private static String soup(Random random) {
        StringBuilder text = new StringBuilder();
        for (int i = random.nextInt(30); i > 0; i--) {
            text.append(PIECES[random.nextInt(PIECES.length)]);
        }
        return text.toString();
    }

    /** The whole program with a few signs changed, or none. */
    private static String changed(Random random) {
        StringBuilder text = new StringBuilder(WHOLE);
        for (int i = random.nextInt(3); i > 0; i--) {
            int at = random.nextInt(text.length());
            text.replace(at, at + random.nextInt(3), PIECES[random.nextInt(PIECES.length)]);
        }
        return text.toString();
    }

    private static void within(String what, int got, int least, int most) {
        if (got < least || got > most) {
            Due.same(what + " is within its range", got, most);
        }
    }
}
