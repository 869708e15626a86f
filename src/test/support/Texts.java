/** Texts of which the tests are made. */
final class Texts {
    static final String ANY = "type Any interface{} ";
    static final String A = "type A struct{} ";
    static final String MAIN = " main A{};";
    /** Any, A, and Q and P around one and two types. */
    static final String QP = ANY + A + "type Q[a Any] struct{} type P[a Any,b Any] struct{} ";

    private Texts() {
    }

    static String nest(int times, String open, String inmost, String close) {
        return open.repeat(times) + inmost + close.repeat(times);
    }

    /** That many of one kind, # being the number of each, from 0. */
    static String list(int count, String each, String between) {
        StringBuilder text = new StringBuilder();
        for (int i = 0; i < count; i++) {
            text.append(i == 0 ? "" : between).append(each.replace("#", Integer.toString(i)));
        }
        return text.toString();
    }

    /** A TYPE of that many WORDS, of A, Q and P. */
    static String sized(int words) {
        if (words == 1) {
            return "A";
        }
        if (words == 2) {
            return "Q[A]";
        }
        int half = (words - 1) / 2;
        return "P[" + sized(half) + "," + sized(words - 1 - half) + "]";
    }

    /** A chain of METHODS, each as often as told: chain("m", 2, "n", 1) is .m().m().n(). */
    static String chain(Object... parts) {
        StringBuilder text = new StringBuilder();
        for (int i = 0; i + 1 < parts.length; i += 2) {
            text.append(("." + parts[i] + "()").repeat((Integer) parts[i + 1]));
        }
        return text.toString();
    }
}
