import java.util.ArrayList;
import java.util.List;

/** A FeatherBench with texts for longs, that tells each answer that is not the one due. */
final class Due {
    private static int looked = 0;
    private static String sentence = "";
    private static final List<String> WRONG = new ArrayList<>();

    FeatherBench bench = new FeatherBench();

    /** Feeds a text, 24 signs at a time, and answers what the last call did. */
    int feed(String text) {
        int answer = bench.count(4);
        for (int i = 0; i < text.length(); i += 24) {
            long[] parts = new long[3];
            for (int j = 0; j < 24; j++) {
                long sign = i + j < text.length() ? text.charAt(i + j) & 255 : 0;
                parts[j / 8] = parts[j / 8] << 8 | sign;
            }
            answer = bench.feed(parts[0], parts[1], parts[2]);
        }
        return answer;
    }

    int program(String text) {
        feed(text);
        return bench.program();
    }

    int implementing(String text) {
        feed(text);
        return bench.implementing();
    }

    int isMade(String text) {
        feed(text);
        return bench.isMade();
    }

    String out() {
        StringBuilder signs = new StringBuilder();
        for (int i = 0; bench.out(i) != FeatherBench.NONE; i++) {
            signs.append((char) bench.out(i));
        }
        return signs.toString();
    }

    String printed(int what) {
        int size = bench.print(what);
        String out = out();
        same("signs that print(" + what + ") told", size, out.length());
        return out;
    }

    /** What follows looks at this sentence of the document, up to the next one. */
    static void says(String words) {
        sentence = "\"" + words + "\": ";
    }

    /** Loads a program that must be without a fault. */
    Due with(String text) {
        same(text, program(text), 0);
        return this;
    }

    /** Expects a fault of that kind at the sign that has the first ^ ahead of it. */
    static void fault(int kind, String marked) {
        int place = marked.indexOf('^');
        String text = marked.substring(0, place) + marked.substring(place + 1);
        same(marked, new Due().program(text), kind + 16 * place);
    }

    static void fine(String text) {
        same(text, new Due().program(text), 0);
    }

    static void same(String what, long got, long due) {
        looked++;
        if (got != due) {
            WRONG.add(sentence + what + " answered " + got + ", due is " + due);
        }
    }

    static void same(String what, String got, String due) {
        looked++;
        if (!got.equals(due)) {
            WRONG.add(sentence + what + " answered " + got + ", due is " + due);
        }
    }

    static void end() {
        WRONG.forEach(System.out::println);
        System.out.println(looked - WRONG.size() + " of " + looked + " answers are as due");
        System.exit(WRONG.isEmpty() && looked > 0 ? 0 : 1);
    }

    private Due() {
    }

    static Due fresh() {
        return new Due();
    }
}
