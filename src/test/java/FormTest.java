import java.io.IOException;
import java.lang.reflect.Field;
import java.lang.reflect.Method;
import java.lang.reflect.Modifier;
import java.nio.file.Files;
import java.nio.file.Path;
import java.util.ArrayList;
import java.util.Arrays;
import java.util.HashSet;
import java.util.List;
import java.util.Set;
import java.util.regex.Matcher;
import java.util.regex.Pattern;

/** The form of the program: the rules of LANGUAGE.md that a look at the source and the classes can tell. */
public final class FormTest {
    private static final Path SOURCE = Path.of("src/main/java/FeatherBench.java");
    private static final Set<String> FACE = Set.of("feed", "program", "implementing", "run", "failed", "calls", "instances",
        "made", "isMade", "print", "out", "count");
    private static final Pattern COMMENTS = Pattern.compile("/\\*.*?\\*/|//[^\\n]*+", Pattern.DOTALL);
    private static final Pattern STRINGS = Pattern.compile("\"[^\"\\n]*+\"|'\\\\?+[^\\n]'");

    public static void main(String[] args) throws IOException {
        String code = code();
        words(code);
        library(code);
        classes();
        methods(code);
        Due.end();
    }

    /** The source without comments, texts and signs. */
    private static String code() throws IOException {
        String source = Files.readString(SOURCE);
        for (char sign : source.toCharArray()) {
            if (sign > 126) {
                Due.same("rule 3: a sign of the source", sign, 126);
            }
        }
        return STRINGS.matcher(COMMENTS.matcher(source).replaceAll(" ")).replaceAll("\"\"");
    }

    private static int count(String code, String pattern) {
        Matcher m = Pattern.compile(pattern).matcher(code);
        int n = 0;
        while (m.find()) {
            n++;
        }
        return n;
    }

    private static void words(String code) {
        for (String word : new String[] {"throw", "throws", "try", "catch", "finally", "synchronized", "assert", "package",
            "native", "volatile", "goto", "double", "float"}) {
            Due.same("rule 6: " + word, count(code, "\\b" + word + "\\b"), 0);
        }
        Due.same("rule 2: lambdas", count(code, "->"), 0);
        Due.same("rule 2: references of methods", count(code, "::"), 0);
        Due.same("rule 2: classes without a name", count(code, "\\bnew\\s+\\w+\\s*\\([^;{]*\\)\\s*\\{"), 0);
        Due.same("rule 5: static blocks", count(code, "\\bstatic\\s*\\{"), 0);
        Due.same("rule 3: arrays of three dimensions", count(code, "\\[\\s*\\]\\s*\\[\\s*\\]\\s*\\["), 0);
        Due.same("rule 9: loops without an end", count(code, "while\\s*\\(true\\)|for\\s*\\([^;)]*;\\s*;"), 0);
        Due.same("rule 10: texts joined by +", count(code, "\"\"\\s*\\+|\\+\\s*\"\""), 0);
    }

    private static void library(String code) {
        Due.same("rule 4: imports", count(code, "\\bimport\\b"), count(code, "\\bimport java\\.util\\.(Arrays|ArrayList|List);"));
        Due.same("rule 4: Exact", count(code, "Exact\\b"), 0);
        Due.same("rule 13: System", count(code, "\\bSystem\\b"), count(code, "\\bSystem\\.arraycopy\\("));
        Due.same("rule 4: Arrays", count(code, "\\bArrays\\."), count(code, "\\bArrays\\.(copyOf|copyOfRange|fill)\\("));
        Due.same("rule 4: Math", count(code, "\\bMath\\."),
            count(code, "\\bMath\\.(min|max|abs|floorDiv|floorMod)\\("));
        for (String name : new String[] {"Thread", "Random", "Object", "Class", "Runtime", "File", "Instant", "Comparator",
            "HashMap", "Map", "Set", "Optional", "Stream", "hashCode", "toString", "getClass"}) {
            Due.same("rule 4: " + name, count(code, "\\b" + name + "\\b"), 0);
        }
    }

    private static void classes() {
        Class<?> face = FeatherBench.class;
        List<Class<?>> all = new ArrayList<>(Arrays.asList(face.getDeclaredClasses()));
        for (Class<?> c : all) {
            Due.same("rule 2: static " + c, Modifier.isStatic(c.getModifiers()) ? 1 : 0, 1);
            Due.same("rule 2: none within " + c, c.getDeclaredClasses().length, 0);
        }
        all.add(face);
        Due.same("rule 11: some twelve classes", all.size() <= 12 ? 1 : all.size(), 1);
        Set<String> names = new HashSet<>(FACE);
        for (Class<?> c : all) {
            int fields = 0;
            for (Field f : c.getDeclaredFields()) {
                boolean fixed = Modifier.isStatic(f.getModifiers());
                fields += fixed ? 0 : 1;
                Due.same("rule 5: final " + f, !fixed || Modifier.isFinal(f.getModifiers()) ? 1 : 0, 1);
                Due.same("rule 1: hidden " + f, c != face || f.getName().equals("NONE") || Modifier.isPrivate(f.getModifiers())
                    ? 1 : 0, 1);
            }
            Due.same("rule 11: some twenty fields of " + c, fields <= 20 ? 1 : fields, 1);
            for (Method m : c.getDeclaredMethods()) {
                Due.same("rule 11: parameters of " + m, m.getParameterCount() <= 7 ? 1 : m.getParameterCount(), 1);
                if (Modifier.isPrivate(m.getModifiers())) {
                    Due.same("rule 1: a name of the face, " + m, names.contains(m.getName()) ? 1 : 0, 0);
                }
            }
        }
    }

    /** The length of each method: from its head to the brace that closes it. */
    private static void methods(String code) {
        String[] lines = code.split("\n");
        Pattern head = Pattern.compile("^( {4}| {8})(public |private |static )*[\\w\\[\\]]+( \\w+)?\\([^;]*\\{$");
        for (int i = 0; i < lines.length; i++) {
            Matcher m = head.matcher(lines[i]);
            if (m.find()) {
                int end = i;
                while (end < lines.length && !lines[end].equals(m.group(1) + "}")) {
                    end++;
                }
                Due.same("rule 11: lines of " + lines[i].trim(), end - i <= 60 ? 1 : end - i, 1);
            }
        }
    }
}
