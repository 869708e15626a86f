/** Terms 2: when TYPES are one, when METHODS are ALIKE, what IMPLEMENTS what, each way it may not be so. */
public final class ShapesEdgeTest {
    private static final String BASE = "type Any interface{} type A struct{} type C struct{} "
        + "type Box[a Any] struct{v a;} type P[a Any,b Any] struct{l a;r b;} type G[a Any] interface{} ";
    // of each: a func of S, a call of it by itself; a METHOD of I, a call of it with y of Any
    private static final String[][] ALIKE = {
        {"m()A", "m()", "m()A", "m()"},
        {"m(y A)A", "m(y)", "m(z A)A", "m(y.(A))"},
        {"m(y A,z C)A", "m(y,z)", "m(u A,v C)A", "m(y.(A),y.(C))"},
        {"m[p Any]()A", "m[p]()", "m[q Any]()A", "m[A]()"},
        {"m[p Any](y p)p", "m[p](y)", "m[q Any](z q)q", "m[Any](y)"},
        {"m[p Any,q Any](y p)q", "m[p,q](y)", "m[q Any,p Any](y q)p", "m[Any,A](y)"},
        {"m[p G[q],q Any](y p)q", "m[p,q](y)", "m[q G[p],p Any](y q)p", "m[Any,A](y)"},
        {"m[p Any](y Box[P[p,A]])Box[p]", "m[p](y)", "m[q Any](y Box[P[q,A]])Box[q]", "m[C](y.(Box[P[C,A]]))"},
    };
    private static final String[][] UNLIKE = {
        {"n()A", "n()", "m()A", "m()"},
        {"m[p Any]()A", "m[p]()", "m()A", "m()"},
        {"m()A", "m()", "m[p Any]()A", "m[A]()"},
        {"m[p Any,q Any]()A", "m[p,q]()", "m[p Any]()A", "m[A]()"},
        {"m[p Any]()A", "m[p]()", "m[p Any,q Any]()A", "m[A,A]()"},
        {"m[p Any,q Any]()A", "m[p,q]()", "m[p Any]()Any", "m[A]()"},
        {"m[p Any]()Any", "m[p]()", "m[p Any,q Any]()A", "m[A,A]()"},
        {"m[p Any]()A", "m[p]()", "m[p G[A]]()A", "m[A]()"},
        {"m[p G[A]]()A", "m[p]()", "m[p G[C]]()A", "m[A]()"},
        {"m[p Any,q G[p]]()A", "m[p,q]()", "m[p Any,q G[q]]()A", "m[A,A]()"},
        {"m[p Any,q Any]()A", "m[p,q]()", "m[p Any,q G[p]]()A", "m[A,A]()"},
        {"m()A", "m()", "m(y A)A", "m(y.(A))"},
        {"m(y A)A", "m(y)", "m()A", "m()"},
        {"m(y A)A", "m(y)", "m(y A,z A)A", "m(y.(A),y.(A))"},
        {"m(y A,z A)A", "m(y,z)", "m(y A)A", "m(y.(A))"},
        {"m(y A)A", "m(y)", "m(y C)A", "m(y.(C))"},
        {"m(y A,z A)A", "m(y,z)", "m(y A,z C)A", "m(y.(A),y.(C))"},
        {"m(y A,z C)A", "m(y,z)", "m(y C,z A)A", "m(y.(C),y.(A))"},
        {"m(y Any)A", "m(y)", "m(y A)A", "m(y.(A))"},
        {"m(y A)A", "m(y)", "m(y Any)A", "m(y)"},
        {"m()A", "m()", "m()C", "m()"},
        {"m()A", "m()", "m()Any", "m()"},
        {"m()Box[A]", "m()", "m()Box[C]", "m()"},
        {"m()P[A,C]", "m()", "m()P[C,A]", "m()"},
        {"m[p Any,q Any](y p)A", "m[p,q](y)", "m[p Any,q Any](y q)A", "m[A,Any](y)"},
        {"m[p Any,q Any](y p,z q)p", "m[p,q](y,z)", "m[p Any,q Any](y p,z q)q", "m[Any,Any](y,y)"},
        {"m[p Any](y p)p", "m[p](y)", "m[p Any](y p)Any", "m[Any](y)"},
    };

    public static void main(String[] args) {
        oneType();
        putAtOnce();
        alike();
        unlike();
        allOfItsMethods();
        inThisOrder();
        methodsOfAStruct();
        methodsOfAnInterface();
        paramsByTheirPlaces();
        aStructIsMetByItself();
        formalsAreNoTypes();
        theTwentyFourthType();
        Due.end();
    }

    private static void ask(Due d, String text, int due) {
        Due.same(text, d.implementing(text), due);
    }

    private static void oneType() {
        Due.says("TYPES are one if they have the same WORDS in the same places");
        Due d = Due.fresh().with(BASE + "main A{};");
        ask(d, "A;A", 1);
        ask(d, "A;C", 0);
        ask(d, "P[A,C];P[A,C]", 1);
        ask(d, "P[A,C];P[C,A]", 0);
        ask(d, "P[A,C];P[A,A]", 0);
        ask(d, "P[Box[A],C];P[Box[A],C]", 1);
        ask(d, "P[Box[A],C];P[A,Box[C]]", 0);
        ask(d, "Box[Box[A]];Box[Box[C]]", 0);
        ask(d, " P [ A , C ] ; P[A,C]", 1);
        String[] types = {"A", "C", "Box[A]", "Box[C]", "P[A,A]", "P[A,C]", "P[C,A]", "Box[Box[A]]", "P[Box[A],A]"};
        for (int i = 0; i < types.length; i++) {
            for (int j = 0; j < types.length; j++) {
                ask(d, types[i] + ";" + types[j], i == j ? 1 : 0);
            }
        }
    }

    private static void putAtOnce() {
        Due.says("To put TYPES for PARAMS: at once for all");
        // P[b,a] with b for a and a for b: one put behind the other would give P[a,a] or P[b,b]
        Due.fine(BASE + "func(x P[a,b])swap()P[b,a]{return P[b,a]{x.r,x.l}} "
            + "func(x P[b,a])back()P[b,a]{return x.swap().swap()}" + " main A{};");
        Due.fault(7, BASE + "func(x P[a,b])swap()P[b,a]{return P[b,a]{x.r,x.l}} "
            + "func(x P[b,a])back()P[b,a]{return ^x.swap()}" + " main A{};");
        Due d = Due.fresh().with(BASE + "func(x P[a,b])swap()P[b,a]{return P[b,a]{x.r,x.l}} "
            + "func(x P[b,a])wrap()Any{return P[a,P[b,a]]{x.r,x}} "
            + "main P[A,C]{A{},C{}}.swap().wrap();");
        Due.same("run", d.bench.run(50), 0);
        Due.same("value", d.printed(1), "P[A,P[C,A]]{A{},P[C,A]{C{},A{}}}");
        // a METHOD's and its type's
        Due e = Due.fresh().with(BASE + "func(x Box[a])k[b Any](y b)Any{return P[b,a]{y,x.v}} "
            + "func(x Box[b])j[a Any](y a)Any{return x.k[Box[a]](Box[a]{y})} main Box[A]{A{}}.j[C](C{});");
        Due.same("run", e.bench.run(50), 0);
        Due.same("value", e.printed(1), "P[Box[C],A]{Box[C]{C{}},A{}}");
    }

    /** A program in which S has the func and I asks for the METHOD. */
    private static String with(String[] row) {
        return BASE + "type S struct{} type I interface{" + row[2] + ";} func(x S)" + row[0] + "{return x." + row[1] + "} "
            + "type HI struct{i I;} type NI[a I] struct{} type HA struct{h Any;} ";
    }

    private static void alike() {
        Due.says("Two METHODS of one name are ALIKE if they have as many FORMALS, with BOUNDS, as many VARS with TYPES, "
            + "and a TYPE that are one (FORMALS of the two counting by their places)");
        for (String[] row : ALIKE) {
            String text = with(row);
            String what = row[0] + " for " + row[2];
            Due.same(what, Due.fresh().with(text + "main A{};").implementing("S;I"), 1);
            Due.fine(text + "main HI{S{}};");
            Due.fine(text + "main NI[S]{};");
            Due.same(what + ", cast", Due.fresh().with(text + "main HA{S{}}.h.(I);").bench.run(9), 0);
            Due.same(what + ", METHODS", called(text, row[3]), 1);
        }
    }

    private static void unlike() {
        Due.says("what is not so ends it");
        for (String[] row : UNLIKE) {
            String text = with(row);
            String what = row[0] + " for " + row[2];
            Due.same(what, Due.fresh().with(text + "main A{};").implementing("S;I"), 0);
            Due.fault(7, text + "main HI{^S{}};");
            Due.fault(7, text + "main NI[^S]{};");
            Due.fault(7, text + "func(x A)k(y S)I{return ^y} main A{};");
            Due.fault(7, text + "func(x A)k(y I)Any{return y.(^S)} main A{};");
            Due d = Due.fresh().with(text + "main HA{S{}}.h.(I);");
            Due.same(what + ", cast", d.bench.run(9), 1);
            Due.same(what + ", where", d.bench.failed(), (text + "main HA{S{}}.h").length());
            Due.same(what + ", METHODS", called(text, row[3]), 0);
        }
    }

    /** How many METHODS there are for a CALL of I, S being among the types. */
    private static int called(String text, String call) {
        Due d = Due.fresh().with(text + "func(x A)k(y Any)Any{return y.(I)." + call + "} main A{}.k(S{});");
        // one of them is k itself
        return d.bench.instances() - 1;
    }

    private static void allOfItsMethods() {
        Due.says("an interface if it has all its METHODS, ALIKE");
        String s = BASE + "type S struct{} " + Texts.list(6, "func(x S)m#()A{return A{}}", " ") + " ";
        for (int wrong = -1; wrong < 6; wrong++) {
            String asked = Texts.list(6, "m#()A;", "");
            String other = wrong < 0 ? asked : asked.replace("m" + wrong + "()A", "m" + wrong + "()C");
            String none = wrong < 0 ? asked : asked.replace("m" + wrong + "()A", "n()A");
            Due d = Due.fresh().with(s + "type I interface{" + other + "} type J interface{" + none + "} main A{};");
            ask(d, "S;I", wrong < 0 ? 1 : 0);
            ask(d, "S;J", wrong < 0 ? 1 : 0);
        }
        // none at all; more than are asked for; in another order
        Due d = Due.fresh().with(s + "type Z interface{} type I interface{m5()A;m0()A;} type J interface{m0()A;m5()A;} main A{};");
        ask(d, "S;Z", 1);
        ask(d, "A;Z", 1);
        ask(d, "S;I", 1);
        ask(d, "I;J", 1);
        ask(d, "J;I", 1);
        ask(d, "I;Z", 1);
        ask(d, "Z;I", 0);
        ask(d, "A;I", 0);
    }

    private static void inThisOrder() {
        Due.says("whether there is one, as many FORMALS, their BOUNDS, as many VARS, their TYPES, the TYPE, in this order");
        // what is too great behind what is not so is not made
        String x30 = Texts.sized(30);
        String two = Texts.QP + "type GG[a Any,b Any] interface{} type S struct{} ";
        String i = "type I[a Any] interface{";
        order(two + "func(x S)n()A{return A{}} " + i + "m()A;n()P[a,a];} main A{};", 0);
        order(two + "func(x S)m()Q[A]{return Q[A]{}} func(x S)n()A{return A{}} " + i + "m()A;n()P[a,a];} main A{};", 0);
        order(two + "func(x S)m()A{return A{}} func(x S)n()A{return A{}} " + i + "m()A;n()P[a,a];} main A{};", -2);
        order(two + "func(x S)m()A{return A{}} " + i + "n()P[a,a];m()A;} main A{};", 0);
        order(two + "func(x S)m[p Any]()A{return A{}} " + i + "m()P[a,a];} main A{};", 0);
        order(two + "func(x S)m()A{return A{}} " + i + "m[p GG[a,a]]()A;} main A{};", 0);
        order(two + "func(x S)m[p Any]()A{return A{}} " + i + "m[p GG[a,a]]()A;} main A{};", -2);
        order(two + "func(x S)m[p Any](y A)A{return A{}} " + i + "m[p GG[a,a]]()A;} main A{};", -2);
        order(two + "func(x S)m[p GG[A,A]]()A{return A{}} " + i + "m[p Any](y P[a,a])A;} main A{};", 0);
        order(two + "func(x S)m(y A,z A)A{return A{}} " + i + "m(y P[a,a])A;} main A{};", 0);
        order(two + "func(x S)m(y A)A{return A{}} " + i + "m(y P[a,a])A;} main A{};", -2);
        order(two + "func(x S)m(y Q[A],z A)A{return A{}} " + i + "m(y A,z P[a,a])A;} main A{};", 0);
        order(two + "func(x S)m(y A,z A)A{return A{}} " + i + "m(y A,z P[a,a])A;} main A{};", -2);
        order(two + "func(x S)m(y Q[A])A{return A{}} " + i + "m(y A)P[a,a];} main A{};", 0);
        order(two + "func(x S)m(y A)A{return A{}} " + i + "m(y A)P[a,a];} main A{};", -2);
        Due.says("the interface's first");
        // the type's own TYPE is not made where the interface's is told to be too great already: either way -2
        Due d = Due.fresh().with(Texts.QP + "type W[a Any] struct{} func(x W[a])m()P[a,a]{return P[a,a]{}} "
            + "type I[a Any] interface{m()P[a,a];} type J interface{m()A;} type K interface{n()A;m()A;} main A{};");
        ask(d, "W[" + x30 + "];I[A]", -2);
        ask(d, "W[" + x30 + "];J", -2);
        ask(d, "W[" + x30 + "];K", 0);
        ask(d, "W[A];I[" + x30 + "]", -2);
    }

    private static void order(String text, int due) {
        Due.same(text, Due.fresh().with(text).implementing("S;I[" + Texts.sized(30) + "]"), due);
    }

    private static void methodsOfAStruct() {
        Due.says("of a struct: those of its funcs, with its TYPES for their PARAMS");
        Due d = Due.fresh().with(BASE + "func(x P[p,q])get(y q)p{return x.l} "
            + "type Get[p Any,q Any] interface{get(y q)p;} func(x Box[o])get(y o)o{return y} main A{};");
        ask(d, "P[A,C];Get[A,C]", 1);
        ask(d, "P[A,C];Get[C,A]", 0);
        ask(d, "P[Box[A],C];Get[Box[A],C]", 1);
        ask(d, "Box[A];Get[A,A]", 1);
        ask(d, "Box[A];Get[A,C]", 0);
        ask(d, "A;Get[A,C]", 0);
    }

    private static void methodsOfAnInterface() {
        Due.says("of an interface: those told in it, with its TYPES for its own");
        Due d = Due.fresh().with(BASE + "type Get[p Any,q Any] interface{get(y q)p;} type Put[p Any] interface{get(y A)p;} "
            + "type Big[p Any] interface{get(y A)p;put()p;} main A{};");
        ask(d, "Get[C,A];Put[C]", 1);
        ask(d, "Put[C];Get[C,A]", 1);
        ask(d, "Put[A];Get[C,A]", 0);
        ask(d, "Get[A,C];Put[A]", 0);
        ask(d, "Big[C];Put[C]", 1);
        ask(d, "Put[C];Big[C]", 0);
        ask(d, "Big[C];Put[A]", 0);
        ask(d, "Get[A,C];Get[A,C]", 1);
        ask(d, "Get[A,C];Get[C,A]", 0);
    }

    private static void paramsByTheirPlaces() {
        Due.says("(PARAMS those of one FORMALS, by their places)");
        // a func's PARAMS are its struct's FORMALS, whatever they are called
        Due.fine(BASE + "func(x P[b,a])m()P[b,a]{return x.n()} func(x P[c,d])n()P[c,d]{return x} main A{};");
        Due.fault(7, BASE + "func(x P[b,a])m()P[a,b]{return ^x.n()} func(x P[c,d])n()P[c,d]{return x} main A{};");
        // a METHOD's and its type's of one place are two
        Due.fault(7, BASE + "func(x Box[p])m[q Any](y q)p{return ^y} main A{};");
        Due.fault(7, BASE + "func(x Box[p])m[q Any](y q)q{return ^x.v} main A{};");
        Due.fine(BASE + "func(x Box[p])m[q Any](y q)q{return y} main A{};");
    }

    private static void aStructIsMetByItself() {
        Due.says("A type IMPLEMENTS a struct, a PARAM if it is it");
        Due.fine(BASE + "func(x Box[p])m(y p)p{return y} main A{};");
        Due.fault(7, BASE + "func(x Box[p])m(y A)p{return ^y} main A{};");
        Due.fault(7, BASE + "func(x Box[p])m(y p)A{return ^y} main A{};");
        Due.fault(7, BASE + "func(x P[p,q])m(y q)p{return ^y} main A{};");
        Due.fine(BASE + "func(x P[p,q])m(y q)q{return y} main A{};");
        // an interface does not meet a struct, though it has all that the struct has
        Due d = Due.fresh().with(BASE + "type I interface{} type E struct{} main A{};");
        ask(d, "I;E", 0);
        ask(d, "E;I", 1);
        ask(d, "E;A", 0);
    }

    private static void formalsAreNoTypes() {
        Due.says("(FORMALS of the two counting by their places)");
        // with 24 types: none of them is one with any of six FORMALS
        String types = "type Any interface{} type J interface{m[" + Texts.list(6, "p# Any", ",") + "](" + Texts.list(6, "y# p#", ",")
            + ")Any;} " + Texts.list(22, "type T# struct{}", " ") + " func(x T0)m[" + Texts.list(6, "q# Any", ",") + "](";
        String vars = Texts.list(6, "y# q#", ",");
        Due.same("alike", Due.fresh().with(types + vars + ")Any{return x} main T0{};").implementing("T0;J"), 1);
        for (int var = 0; var < 6; var++) {
            for (int type = 0; type < 22; type++) {
                String with = vars.replace("q" + var, "T" + type);
                Due.same(with, Due.fresh().with(types + with + ")Any{return x} main T0{};").implementing("T0;J"), 0);
            }
            String other = vars.replace("q" + var, "q" + (var + 1) % 6);
            Due.same(other, Due.fresh().with(types + other + ")Any{return x} main T0{};").implementing("T0;J"), 0);
        }
    }

    private static void theTwentyFourthType() {
        Due.says("At most 24 types (the last of them is as good as any)");
        Due d = Due.fresh().with("type Any interface{} type A struct{} " + Texts.list(19, "type T# struct{}", " ")
            + " type B[a Any] struct{f Z[a];g Z[A];} type I[a Any] interface{m[p Any](y p,z Z[a])Z[p];} type Z[a Any] struct{} "
            + "func(x B[b])m[q Any](y q,z Z[b])Z[q]{return Z[q]{}} func(x Z[b])me()Z[b]{return x} "
            + "main B[A]{Z[A]{},Z[A]{}}.m[T0](T0{},Z[A]{}).me();");
        Due.same("types", d.bench.count(0), 24);
        Due.same("type", d.printed(0), "Z[T0]");
        Due.same("run", d.bench.run(50), 0);
        Due.same("value", d.printed(1), "Z[T0]{}");
        ask(d, "B[A];I[A]", 1);
        ask(d, "B[A];I[T0]", 0);
        ask(d, "Z[A];Z[A]", 1);
        ask(d, "Z[A];Z[T0]", 0);
        Due.same("instances", d.bench.instances(), 2);
        Due.same("types made", d.bench.made(0), 5);
        Due.same("Z[T0]", d.isMade("Z[T0]"), 1);
        Due.same("Z[T1]", d.isMade("Z[T1]"), 0);
    }
}
