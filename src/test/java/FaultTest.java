/** Promise 3: programs with and without faults, in the order in which faults are looked for. */
public final class FaultTest {
    private static final String ANY = "type Any interface{} ";
    private static final String A = "type A struct{} ";
    private static final String BOX = ANY + "type Box[a Any] struct{v a;} ";
    private static final String MAIN = " main A{};";

    public static void main(String[] args) {
        tokens();
        reading();
        readingE();
        limitsOfLists();
        limitsOfNesting();
        typesWithinE();
        twice();
        toldTypes();
        greatTypes();
        bounds();
        holdingItself();
        bodies();
        methods();
        casts();
        greatInBodies();
        orderOfPasses();
        aFaultChangesNothing();
        Due.end();
    }

    private static void tokens() {
        Due.fine("type\nA struct{}\n\nmain A{ } ;\n ");
        Due.fine("type Abcdefghij12 struct{} main Abcdefghij12{};");
        Due.fault(1, "type ^Abcdefghij123 struct{} main A{};");
        Due.fault(1, "type ^9a struct{} main A{};");
        Due.fault(1, "type A^# struct{} main A{};");
        Due.fault(1, "type ^_A struct{} main A{};");
        Due.fault(1, "^typ A struct{} main A{};");
        Due.fault(1, A + "main A{}^:");
        Due.fault(1, A + "main A{}.^abcdefghijklm;");
    }

    private static void reading() {
        Due.fault(1, "^");
        Due.fault(1, "   ^");
        Due.fault(1, "^;");
        Due.fault(1, "type^");
        Due.fault(1, "type ^type struct{} main A{};");
        Due.fault(1, "type A ^{} main A{};");
        Due.fault(1, "type A[^] struct{} main A{};");
        Due.fault(1, "type A[a^] struct{} main A{};");
        Due.fault(1, "type A[a Any,^] struct{} main A{};");
        Due.fault(1, "type A struct{f A^} main A{};");
        Due.fault(1, "type A struct{f ^;} main A{};");
        Due.fault(1, "type A struct{f A[^];} main A{};");
        Due.fault(1, "type A struct{^return A;} main A{};");
        Due.fault(1, "type A interface{m()^;} main A{};");
        Due.fault(1, "type A interface{m ^A;} main A{};");
        Due.fault(1, "type A interface{m(x^)A;} main A{};");
        Due.fault(1, "type A interface{m(x A,^)A;} main A{};");
        Due.fault(1, "type A interface{m[a^](x A)A;} main A{};");
        Due.fault(1, A + "func ^x A)m()A{return x}" + MAIN);
        Due.fault(1, A + "func(x^)m()A{return x}" + MAIN);
        Due.fault(1, A + "func(x A[^])m()A{return x}" + MAIN);
        Due.fault(1, A + "func(x A[a ^A])m()A{return x}" + MAIN);
        Due.fault(1, A + "func(x A)m()A{^x}" + MAIN);
        Due.fault(1, A + "func(x A)m()A{return ^}" + MAIN);
        Due.fault(1, A + "func(x A)m()A{return x^;}" + MAIN);
        Due.fault(1, A + "^struct main A{};");
        Due.fault(1, A + "main A{}^");
        Due.fault(1, A + "main A{};^main A{};");
        Due.fault(1, A + "main A{}; ^x");
    }

    private static void readingE() {
        Due.fault(1, A + "main ^;");
        Due.fault(1, A + "main ^main;");
        Due.fault(1, A + "main A[A]^;");
        Due.fault(1, A + "main A{^,};");
        Due.fault(1, A + "main A{A{},^};");
        Due.fault(1, A + "main A{A{}^;");
        Due.fault(1, A + "main A{}.^;");
        Due.fault(1, A + "main A{}.^func;");
        Due.fault(1, A + "main A{}.(^);");
        Due.fault(1, A + "main A{}.(A^,A);");
        Due.fault(1, A + "main A{}.m[^]();");
        Due.fault(1, A + "main A{}.m[A]^;");
        Due.fault(1, A + "main A{}.m(^,);");
        Due.fault(1, A + "main A{}.m()^A;");
        // a WORD with neither { nor [ behind it is a VAR
        Due.fault(2, A + "main ^A;");
        Due.fault(1, A + "main A ^();");
    }

    private static void limitsOfLists() {
        Due.fine(types(24) + "main T0{};");
        Due.fault(5, types(24) + "^type T struct{} main T0{};");
        Due.fault(5, types(24) + "^type 9");
        Due.fine(A + funcs(60) + MAIN);
        Due.fault(5, A + funcs(60) + "^func(x A)n()A{return x}" + MAIN);
        Due.fine(ANY + A + "type B[a Any,b Any,c Any,d Any,e Any,f Any] struct{}" + MAIN);
        Due.fault(5, ANY + A + "type B[a Any,b Any,c Any,d Any,e Any,f Any,^g Any] struct{}" + MAIN);
        Due.fault(1, ANY + A + "type B[a Any,b Any,c Any,d Any,e Any,f Any,^] struct{}" + MAIN);
        Due.fault(5, ANY + A + "func(x B[a,b,c,d,e,f,^g])m()A{return x}" + MAIN);
        Due.fine(A + "type B struct{a A;b A;c A;d A;e A;f A;}" + MAIN);
        Due.fault(5, A + "type B struct{a A;b A;c A;d A;e A;f A;^g A;}" + MAIN);
        Due.fault(1, A + "type B struct{a A;b A;c A;d A;e A;f A;^; }" + MAIN);
        Due.fine(A + "type B interface{a()A;b()A;c()A;d()A;e()A;f()A;}" + MAIN);
        Due.fault(5, A + "type B interface{a()A;b()A;c()A;d()A;e()A;f()A;^g()A;}" + MAIN);
        Due.fine(A + "type B interface{m(a A,b A,c A,d A,e A,f A)A;}" + MAIN);
        Due.fault(5, A + "type B interface{m(a A,b A,c A,d A,e A,f A,^g A)A;}" + MAIN);
        // how many an E has is looked at in the fourth going through, 7 in the reading
        Due.fault(4, A + "main ^A{A{},A{},A{},A{},A{},A{}};");
        Due.fault(5, A + "main A{A{},A{},A{},A{},A{},A{},^A{}};");
        Due.fault(2, A + "main A{}.^m(A{},A{},A{},A{},A{},A{});");
        Due.fault(5, A + "main A{}.m(A{},A{},A{},A{},A{},A{},^A{});");
        Due.fault(4, A + "main ^A[A,A,A,A,A,A]{};");
        Due.fault(5, A + "main A[A,A,A,A,A,A,^A]{};");
        Due.fault(5, A + "main A{}.m[A,A,A,A,A,A,^A]();");
        Due.fault(1, A + "main A[A,A,A,A,A,A,^type]{};");
        Due.fine("type A struct{} func(x A)m()A{return x} main A{}" + ".m()".repeat(20) + ";");
        Due.fault(5, "type A struct{} func(x A)m()A{return x} main A{}" + ".m()".repeat(20) + "^.m();");
    }

    private static String types(int count) {
        StringBuilder text = new StringBuilder();
        for (int i = 0; i < count; i++) {
            text.append("type T").append(i).append(" struct{} ");
        }
        return text.toString();
    }

    private static String funcs(int count) {
        StringBuilder text = new StringBuilder();
        for (int i = 0; i < count; i++) {
            text.append("func(x A)m").append(i).append("()A{return x} ");
        }
        return text.toString();
    }

    private static void limitsOfNesting() {
        String field = BOX + A + "type B struct{f ";
        Due.fine(field + nest(9, "Box[", "A", "]") + ";}" + MAIN);
        Due.fault(5, field + nest(10, "Box[", "^A", "]") + ";}" + MAIN);
        Due.fault(1, field + nest(10, "Box[", "^", "]") + ";}" + MAIN);
        String value = ANY + A + "type S struct{n Any;} main ";
        Due.fine(value + nest(8, "S{", "A{}", "}") + ";");
        Due.fault(5, value + nest(9, "S{", "^A{}", "}") + ";");
        Due.fault(5, value + "S{".repeat(9) + "^S{A{}}" + "}".repeat(9) + ";");
        Due.fault(1, value + "S{".repeat(9) + "^;");
        String same = A + "func(x A)m(y A)A{return y} main ";
        Due.fine(same + nest(8, "A{}.m(", "A{}", ")") + ";");
        Due.fault(5, same + nest(9, "A{}.m(", "^A{}", ")") + ";");
        // an E that is a VAR has no TYPE in it
        String var = A + "func(x A)m(y A)A{return ";
        Due.fine(var + nest(9, "x.m(", "y", ")") + "}" + MAIN);
        Due.fault(5, var + nest(10, "x.m(", "^y", ")") + "}" + MAIN);
        Due.fault(1, var + nest(10, "x.m(", "^,", ")") + "}" + MAIN);
    }

    private static String nest(int times, String open, String inmost, String close) {
        return open.repeat(times) + inmost + close.repeat(times);
    }

    /** A TYPE stands within its E: they are counted together. */
    private static void typesWithinE() {
        Due.fault(5, "main " + "A{".repeat(9) + "^A{}}}");
        String empty = ANY + A + "type Q[a Any] struct{} main ";
        Due.fine(empty + nest(8, "Q[", "A", "]") + "{};");
        Due.fault(5, empty + nest(9, "Q[", "^A", "]") + "{};");
        inCalls(8, "y.(A)", "y.(^A)");
        inCalls(7, "y.(Box[A])", "y.(Box[^A])");
        inCalls(8, "x.k[A](y)", "x.k[^A](y)");
        inCalls(7, "x.k[Box[A]](y)", "x.k[Box[^A]](y)");
        inCalls(7, "x.k[A](y.(A))", "x.k[A](y.(^A))");
        inCalls(8, "A{}", "^A{}");
        inCalls(7, "Box[A]{x}", "Box[^A]{x}");
        // what is behind a point is not within what is ahead of it
        inCalls(8, "y.(A).k[A](y).(A).m(y).(Any)", "y.(^A).k[A](y).(A).m(y).(Any)");
        inCalls(9, "x", "^x");
    }

    /** What is fine within that many calls has a fault within one more. */
    private static void inCalls(int calls, String fine, String wrong) {
        String ahead = BOX + A + "func(x A)k[a Any](y Any)Any{return y} func(x A)m(y Any)Any{return ";
        Due.fine(ahead + nest(calls, "x.m(", fine, ")") + "}" + MAIN);
        Due.fault(5, ahead + nest(calls + 1, "x.m(", wrong, ")") + "}" + MAIN);
    }

    private static void twice() {
        Due.fault(3, "type A struct{} type ^A interface{} main A{};");
        Due.fault(3, ANY + A + "type B[a Any,b Any,^a Any] struct{}" + MAIN);
        Due.fault(3, A + "type B struct{f A;g A;^f A;}" + MAIN);
        Due.fault(3, A + "type B interface{m()A;n()A;^m(x A)A;}" + MAIN);
        Due.fault(3, ANY + A + "type B interface{m[a Any,^a Any]()A;}" + MAIN);
        Due.fault(3, BOX + A + "func(x Box[a,^a])m()A{return A{}}" + MAIN);
        Due.fault(3, BOX + A + "func(x Box[a])m[b Any,^a Any]()A{return A{}}" + MAIN);
        Due.fault(3, A + "func(x A)m(^x A)A{return x}" + MAIN);
        Due.fault(3, A + "func(x A)m(y A,^y A)A{return x}" + MAIN);
        Due.fault(3, A + "func(x A)m()A{return x} func(x A)n()A{return x} func(y A)^m(z A)A{return y}" + MAIN);
        // the same NAME counts, whether or not it is a type
        Due.fault(3, A + "func(x B)m()A{return x} func(x B)^m()A{return x}" + MAIN);
        // a PARAM may be called as a VAR
        Due.fine(BOX + A + "func(x Box[x])m[y Any](y y)x{return x.v}" + MAIN);
        Due.fine(BOX + A + "func(x Box[b])m[x Any](b x)x{return b}" + MAIN);
        // two structs may have METHODS of one name, a FIELD may be called as a METHOD, a PARAM as a type
        Due.fine(A + "type B struct{m A;} func(x A)m()A{return x} func(x B)m()A{return x.m}" + MAIN);
        Due.fine(ANY + A + "type B[A Any] struct{f A;} main B[A]{A{}};");
        // a METHOD's PARAM may be called as its interface's, and hides it; so may VARS there
        Due.fine(ANY + A + "type B[a Any] interface{m[a Any](x a,x a)a;}" + MAIN);
        Due.fine("type I interface{m(x A,x A)A;} " + A + MAIN);
        // the first from the left
        Due.fault(3, "type B struct{f C;^f C;} type B struct{} main C{};");
    }

    private static void toldTypes() {
        Due.fault(2, A + "type B struct{f ^C;}" + MAIN);
        Due.fault(2, A + "type B interface{m(x A,y ^a)A;}" + MAIN);
        Due.fault(2, A + "type B interface{m()^C;}" + MAIN);
        Due.fault(2, A + "type B[a ^C] struct{}" + MAIN);
        Due.fault(2, A + "func(x ^C)m()A{return x}" + MAIN);
        Due.fault(6, ANY + A + "func(x ^Any)m()A{return x}" + MAIN);
        Due.fault(4, A + "func(x ^A[a])m()A{return x}" + MAIN);
        Due.fault(4, BOX + A + "func(x ^Box)m()A{return x}" + MAIN);
        Due.fault(4, BOX + A + "type B struct{f ^Box;}" + MAIN);
        Due.fault(4, BOX + A + "type B struct{f ^Box[C,D];}" + MAIN);
        Due.fault(4, A + "type B struct{f ^A[A];}" + MAIN);
        Due.fault(2, BOX + A + "type B struct{f Box[^C];}" + MAIN);
        Due.fault(4, BOX + A + "type B struct{f Box[^Box];}" + MAIN);
        Due.fault(4, ANY + A + "type B[a Any] struct{f ^a[A];}" + MAIN);
        Due.fault(6, ANY + A + "type B[a Any,b ^A] struct{}" + MAIN);
        Due.fault(6, ANY + A + "type B[a Any,b ^a] struct{}" + MAIN);
        Due.fault(6, BOX + A + "type B[b ^Box[A]] struct{}" + MAIN);
        Due.fault(2, BOX + A + "type B[b Box[^C]] struct{}" + MAIN);
        Due.fault(6, ANY + A + "func(x A)m[a Any,b ^a]()A{return x}" + MAIN);
        // PARAMS hold for each other's BOUNDS, for FIELDS, HEADS and E
        Due.fine(ANY + A + "type G[a Any] interface{} type B[a G[b],b G[a]] struct{x a;y b;}" + MAIN);
        Due.fine(BOX + A + "func(x Box[b])m[c Any](y b,z c)Box[Box[c]]{return Box[Box[c]]{Box[c]{z}}}" + MAIN);
        Due.fault(2, BOX + A + "func(x Box[b])m(y ^a)A{return A{}}" + MAIN);
        // NAMES that are told behind
        Due.fine("type Box[a Any] struct{v a;} type Any interface{} type A struct{} main Box[A]{A{}};");
        Due.fine("type B struct{f A;} func(x A)m()B{return B{x}} type A struct{} main A{};");
    }

    private static final String SIX = ANY + A + "type S[a Any,b Any,c Any,d Any,e Any,f Any] struct{} ";
    private static final String S7 = "S[A,A,A,A,A,A]";

    private static void greatTypes() {
        String s43 = "S[" + (S7 + ",").repeat(5) + S7 + "]";
        String s55 = "S[" + s43 + "," + S7 + ",A,A,A,A]";
        String more = "type P[a Any,b Any] struct{} type Q[a Any] struct{} ";
        String s60 = "Q[P[" + s55 + ",P[A,A]]]";
        Due.fine(SIX + more + "type B struct{f " + s60 + ";}" + MAIN);
        Due.fault(9, SIX + more + "type B struct{f ^Q[" + s60 + "];}" + MAIN);
        Due.fine(SIX + more + "main " + s60 + "{};");
        Due.fault(9, SIX + "type B struct{f ^S[" + s43 + "," + S7 + "," + S7 + ",A,A,A];}" + MAIN);
        Due.fault(9, SIX + "type B struct{f S[A,^S[" + s43 + "," + S7 + "," + S7 + ",A,A,A],A,A,A,A];}" + MAIN);
        // what is inside is looked at first
        Due.fault(2, SIX + "type B struct{f S[" + s43 + "," + S7 + "," + S7 + ",A,A,^C];}" + MAIN);
        Due.fault(9, SIX + "main ^S[" + s43 + "," + S7 + "," + S7 + ",A,A,A]{};");
    }

    private static void bounds() {
        String base = ANY + A + "type C struct{} func(x C)m()A{return A{}} type M interface{m()A;} ";
        String need = base + "type N[a M] struct{} type K[a Any,b M] interface{} ";
        Due.fine(need + "type B struct{f N[C];g K[A,C];h N[M];}" + MAIN);
        Due.fault(7, need + "type B struct{f N[^A];}" + MAIN);
        Due.fault(7, need + "type B struct{f K[A,^A];}" + MAIN);
        Due.fault(7, need + "type B struct{f N[^Any];}" + MAIN);
        Due.fault(7, need + "type B[a Any] struct{f N[^a];}" + MAIN);
        Due.fine(need + "type B[a M] struct{f N[a];}" + MAIN);
        Due.fault(7, need + "type B[a K[A,^A]] struct{}" + MAIN);
        Due.fault(7, need + "func(x A)n(y N[^A])A{return x}" + MAIN);
        Due.fault(7, need + "func(x A)n()N[^A]{return x}" + MAIN);
        Due.fault(7, need + "type I interface{n[a K[A,^A]]()A;}" + MAIN);
        // inner ones first, though they stand behind
        Due.fault(7, need + "type B struct{f K[A,N[^A]];}" + MAIN);
        Due.fault(7, need + "type B struct{f K[N[^A],A];}" + MAIN);
        Due.fault(7, need + "type B struct{f K[A,K[A,^A]];}" + MAIN);
        // a func's PARAM has the BOUND of the FORMAL in its place
        Due.fine(need + "func(x N[b])n()N[b]{return x}" + MAIN);
        // a BOUND that tells of its own PARAM
        String eq = ANY + A + "type Eq[a Eq[a]] interface{eq(x a)A;} type Q[a Eq[a]] struct{} ";
        Due.fine(eq + "type C struct{} func(x C)eq(y C)A{return A{}} main Q[C]{};");
        Due.fault(7, eq + "type C struct{} func(x C)eq(y A)A{return A{}} main Q[^C]{};");
        // a type for a PARAM is held against its BOUND with all types put
        String two = ANY + A + "type F[a Any,b Any] interface{f(x a)b;} type W[p Any,q F[p,p]] struct{} ";
        Due.fine(two + "type C struct{} func(x C)f(y A)A{return y} main W[A,C]{};");
        Due.fault(7, two + "type C struct{} func(x C)f(y A)C{return x} main W[A,^C]{};");
    }

    private static void holdingItself() {
        Due.fault(8, "type ^A struct{f A;} main A{};");
        Due.fault(8, "type Z struct{} type ^A struct{z Z;f B;} type B struct{g C;} type C struct{h A;} main Z{};");
        Due.fault(8, "type Z struct{b B;} type ^B struct{b B;} main Z{};");
        Due.fault(8, ANY + "type ^A[a Any] struct{f A[A[a]];} main A[Any]{};");
        Due.fine("type A struct{f I;} type I interface{m()A;} type Z struct{} main Z{};");
        Due.fine(BOX + "type B struct{f Box[B];} type Z struct{} main Z{};");
        Due.fine(A + "type B struct{f A;g A;} type C struct{f A;g B;}" + MAIN);
    }

    private static void bodies() {
        Due.fault(2, A + "func(x A)m(y A)A{return ^z}" + MAIN);
        Due.fine(A + "func(x A)m(y A)A{return y}" + MAIN);
        Due.fault(2, A + "func(x A)m(y A)A{return y} main ^y;");
        Due.fault(2, A + "main ^B{};");
        Due.fault(4, A + "main ^A[A]{};");
        Due.fault(6, ANY + A + "main ^Any{};");
        Due.fault(6, BOX + A + "func(x Box[a])m()A{return ^a{}}" + MAIN);
        Due.fault(4, BOX + A + "main ^Box[A]{};");
        Due.fault(4, A + "main ^A{A{}};");
        Due.fault(4, A + "main ^A{B{}};");
        Due.fault(7, BOX + A + "type C struct{} main Box[A]{^C{}};");
        Due.fault(2, BOX + A + "main Box[A]{^C{}};");
        Due.fine(BOX + A + "main Box[Any]{A{}};");
        Due.fault(7, BOX + A + "type M interface{m()A;} main Box[M]{^A{}};");
        Due.fault(7, A + "type P struct{a A;b P2;} type P2 struct{} main P{A{},^A{}};");
        Due.fault(6, BOX + A + "main Box[Any]{A{}}.v^.v;");
        Due.fault(2, BOX + A + "main Box[Any]{A{}}.^w;");
        Due.fine(BOX + A + "main Box[Box[A]]{Box[A]{A{}}}.v.v;");
        Due.fault(2, BOX + A + "main Box[Box[A]]{Box[A]{A{}}}.v.v.^v;");
        Due.fault(6, BOX + A + "func(x Box[a])m()A{return x.v^.v}" + MAIN);
        Due.fault(7, A + "type B struct{} func(x A)m()B{return ^x}" + MAIN);
        Due.fault(7, BOX + A + "func(x Box[a])m()a{return ^x}" + MAIN);
        Due.fine(BOX + A + "func(x Box[a])m()a{return x.v}" + MAIN);
        Due.fault(7, BOX + A + "func(x Box[a])m[b Any]()b{return ^x.v}" + MAIN);
        Due.fault(7, ANY + A + "type M interface{m()A;} func(x A)n(y Any)M{return ^y}" + MAIN);
    }

    private static void methods() {
        String m = BOX + A + "type C struct{} type M interface{m(x A)A;} "
            + "func(x A)m(y A)A{return y} func(x A)g[p Any,q M](y p,z q)q{return z} ";
        Due.fine(m + "main A{}.g[C,A](C{},A{}).m(A{});");
        Due.fault(2, m + "main A{}.^n();");
        Due.fault(2, m + "main C{}.^m(A{});");
        Due.fault(2, m + "func(x A)k(y Any)A{return y.^m(x)}" + MAIN);
        Due.fault(4, m + "main A{}.^m();");
        Due.fault(4, m + "main A{}.^m(A{},A{});");
        Due.fault(4, m + "main A{}.^m[A](A{});");
        Due.fault(4, m + "main A{}.^g(C{},A{});");
        Due.fault(4, m + "main A{}.^g[D](C{},A{});");
        Due.fault(2, m + "main A{}.g[C,^D](E{},A{});");
        Due.fault(4, m + "main A{}.g[C,^A[A]](C{},A{});");
        Due.fault(7, m + "main A{}.g[C,^C](E{},A{});");
        Due.fault(7, m + "main A{}.g[A,A](^C{},A{});");
        Due.fault(2, m + "main A{}.g[A,A](A{},^x);");
        Due.fault(7, m + "main A{}.g[A,A](A{},^C{});");
        // WORDS of all TYPES first, then what is in their [ ], then their BOUNDS
        String n = m + "type N[a M] struct{} ";
        Due.fault(2, n + "main A{}.g[N[C],^D](C{},A{});");
        Due.fault(7, n + "main A{}.g[A,N[^C]](C{},A{});");
        Due.fault(7, n + "main A{}.g[N[^C],C](C{},A{});");
        // METHODS of a PARAM are its BOUND's
        Due.fine(n + "func(x N[b])k(y b)A{return y.m(A{})}" + MAIN);
        Due.fault(2, n + "func(x N[b])k(y b)A{return y.^g(A{})}" + MAIN);
        Due.fine(m + "func(x C)k[c M](y c)A{return y.m(A{})}" + MAIN);
        // of a METHOD the TYPE with all types put
        String map = BOX + A + "type C struct{} func(x Box[a])map[b Any](y b)Box[b]{return Box[b]{y}} ";
        Due.fine(map + "func(x C)k()C{return Box[A]{A{}}.map[C](x).v}" + MAIN);
        Due.fault(7, map + "func(x C)k()A{return ^Box[A]{A{}}.map[C](x).v}" + MAIN);
    }

    private static void casts() {
        String m = BOX + A + "type C struct{} type M interface{m()A;} func(x A)m()A{return x} "
            + "type N[a M] struct{f a;} ";
        Due.fault(6, m + "main A{}^.(Any);");
        Due.fault(6, m + "main A{}^.(D);");
        Due.fault(2, m + "main Box[Any]{A{}}.v.(^D);");
        Due.fault(4, m + "main Box[Any]{A{}}.v.(^Box);");
        Due.fault(7, m + "main Box[Any]{A{}}.v.(N[^C]);");
        Due.fault(7, m + "main Box[M]{A{}}.v.(^C);");
        Due.fine(m + "main Box[M]{A{}}.v.(A);");
        Due.fine(m + "main Box[Any]{A{}}.v.(C);");
        Due.fine(m + "main Box[M]{A{}}.v.(Any).(Box[A]);");
        Due.fault(7, m + "func(x N[a])k()A{return x.f.(^C)}" + MAIN);
        Due.fine(m + "func(x N[a])k()A{return x.f.(A)}" + MAIN);
        Due.fine(m + "func(x Box[a])k[b Any]()b{return x.v.(b)}" + MAIN);
    }

    private static void greatInBodies() {
        String base = ANY + A + "type P[a Any,b Any] struct{} type B[a Any] struct{f P[a,a];} "
            + "type G[a Any] interface{g()P[a,a];} type N[a G[a]] struct{} type V[a Any] struct{v G[a];} "
            + "func(x B[a])up()B[P[a,a]]{return B[P[a,a]]{P[P[a,a],P[a,a]]{}}} "
            + "func(x B[a])take(y P[a,a])A{return A{}} "
            + "func(x B[a])bound[b G[a]]()A{return A{}} ";
        String p3 = "P[A,A]";
        String p7 = "P[" + p3 + "," + p3 + "]";
        String p15 = "P[" + p7 + "," + p7 + "]";
        String p31 = "P[" + p15 + "," + p15 + "]";
        Due.fault(9, base + "main B[" + p31 + "]{^A{}};");
        Due.fault(2, base + "main B[" + p31 + "]{^x};");
        Due.fault(7, base + "main B[" + p15 + "]{^A{}};");
        Due.fine(base + "main B[" + p7 + "]{" + p15 + "{}}.up();");
        // P[a,a] of 59 WORDS, B of it of 60
        String b29 = "P[" + p15 + ",P[" + p7 + ",P[Q[A],Q[A]]]]";
        String up60 = base + "type Q[a Any] struct{} func(x Q[a])q()B[P[a,a]]{return x.q()} ";
        Due.fine(up60 + "main Q[" + b29 + "]{}.q();");
        Due.fault(9, up60 + "main Q[Q[" + b29 + "]]{}.^q();");
        // the BOUND of a METHOD's FORMAL with types put
        String g3 = "type D struct{} func(x D)g()" + p3 + "{return " + p3 + "{}} ";
        Due.fine(base + g3 + "main B[A]{" + p3 + "{}}.bound[D]();");
        Due.fault(7, base + g3 + "main B[D]{P[D,D]{}}.bound[^D]();");
        Due.fault(9, base + g3 + "func(x B[a])to[b Any]()B[b]{return x.to[b]()} "
            + "main B[A]{" + p3 + "{}}.to[" + p31 + "]().bound[^D]();");
        Due.fine(base + g3 + "func(x A)both[p Any,q G[p]]()A{return x} main A{}.both[A,D]();");
        Due.fault(7, base + g3 + "func(x A)both[p Any,q G[p]]()A{return x} main A{}.both[D,^D]();");
        Due.fault(9, base + "main B[" + p15 + "]{" + p31 + "{}}.up().^up();");
        Due.fault(9, base + "main B[" + p15 + "]{" + p31 + "{}}.up().^f;");
        Due.fault(9, base + "main B[" + p15 + "]{" + p31 + "{}}.up().take(^A{});");
        String c = "type C struct{} func(x C)g()" + p3 + "{return " + p3 + "{}} ";
        Due.fault(9, base + c + "main V[" + p31 + "]{^C{}};");
        // what is not so ends it before a type would be too great
        Due.fault(7, base + "main V[" + p31 + "]{^A{}};");
        Due.fault(9, base + "type D struct{f N[^" + p31 + "];} func(x P[a,b])g()A{return A{}}" + MAIN);
        Due.fault(7, base + "type D struct{f N[^" + p31 + "];}" + MAIN);
        // an interface is held against itself METHOD by METHOD
        Due.fault(9, base + "func(x A)n(y G[" + p31 + "])G[" + p31 + "]{return ^y}" + MAIN);
        Due.fine(base + "func(x A)n(y G[" + p15 + "])G[" + p15 + "]{return y}" + MAIN);
    }

    private static void orderOfPasses() {
        Due.fault(1, "type A struct{f B;f B;} type A struct{} main ^;");
        Due.fault(3, "type A struct{f B;^f B;} main A{};");
        Due.fault(2, "type A struct{f ^B;} func(x A)m()A{return y} main z{};");
        Due.fault(2, "type I interface{m()I;} type N[a I] struct{} type A struct{f N[A];g ^B;} main A{};");
        Due.fault(7, "type I interface{m()I;} type N[a I] struct{} type A struct{f A;g N[^A];} main A{};");
        Due.fault(8, "type ^A struct{f A;} func(x A)m()A{return y} main z{};");
        Due.fault(2, "type A struct{} func(x A)m()A{return ^y} main z{};");
        Due.fault(2, "type A struct{} main A{}.^m(); ");
    }

    private static void aFaultChangesNothing() {
        Due d = Due.fresh().with(A + "func(x A)m()A{return x} main A{}.m();");
        Due.same("run", d.bench.run(9), 0);
        Due.same("instances", d.bench.instances(), 1);
        Due.same("fault", d.program("type A struct{} type B struct{} main C{};"), 2 + 16 * 37);
        Due.same("types", d.bench.count(0), 1);
        Due.same("calls", d.bench.calls(), 1);
        Due.same("value", d.printed(1), "A{}");
        Due.same("made", d.bench.made(2), 1);
        Due.same("run", d.bench.run(9), 0);
        d.with("type B struct{} main B{};");
        Due.same("no value", d.bench.print(1), -1);
        Due.same("not made", d.bench.made(2), -1);
        Due.same("no calls", d.bench.calls(), 0);
        Due.same("its type", d.printed(0), "B");
    }
}
