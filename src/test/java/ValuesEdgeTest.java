/** Terms 1, the fourth going through: faults 2, 4, 6, 7 of E, and their order. */
public final class ValuesEdgeTest {
    private static final String ANY = Texts.ANY;
    private static final String A = Texts.A;
    private static final String MAIN = Texts.MAIN;
    /** C has m(), A has not; N asks for it. */
    private static final String BASE = ANY + A + "type C struct{} type Box[a Any] struct{v a;} "
        + "type Two[a Any,b Any] struct{l a;r b;} type M interface{m()A;} func(x C)m()A{return A{}} "
        + "type N[a M] struct{n a;} type H struct{h Any;i M;} ";

    public static void main(String[] args) {
        vars();
        typesInE();
        noStruct();
        asManyAsFields();
        eachPart();
        fieldOfNoStruct();
        noSuchField();
        noSuchMethod();
        asManyAsFormalsAndVars();
        itsTypes();
        itsParts();
        castOfAStruct();
        castToAType();
        castToAStruct();
        returned();
        typeOfE();
        funcsThenMain();
        Due.end();
    }

    private static void vars() {
        Due.says("A VAR: 2 none of its func");
        String f = BASE + "func(x A)k(y A,z A)A{return @}" + MAIN;
        for (String var : new String[] {"x", "y", "z"}) {
            Due.fine(f.replace("@", var));
        }
        for (String word : new String[] {"w", "X", "xx", "A", "k", "Any"}) {
            Due.fault(2, f.replace("@", "^" + word));
        }
        Due.fault(2, BASE + "main ^x;");
        Due.fault(2, BASE + "main Box[A]{^x};");
        // a VAR of the func ahead, of the interface, a FIELD of the struct, a PARAM is none
        Due.fault(2, BASE + "func(x A)k(y A)A{return y} func(x A)l(z A)A{return ^y}" + MAIN);
        Due.fault(2, BASE + "func(x A)l(z A)A{return ^y} func(x A)k(y A)A{return y}" + MAIN);
        Due.fault(2, BASE + "func(x Box[p])k()p{return ^v}" + MAIN);
        Due.fault(2, BASE + "func(x Box[p])k()p{return ^p}" + MAIN);
    }

    private static void typesInE() {
        Due.says("A TYPE in it: all of this at once, WORD by WORD, then 7");
        for (String text : new String[] {"main Box[Any]{@{}};", "main H{A{},C{}}.h.(@);", "main A{}.g[@]();"}) {
            String all = BASE + "type S[a Any] struct{} type R[a M] struct{} func(x A)g[p Any]()A{return x} " + text;
            Due.fine(all.replace("@", "S[A]"));
            Due.fine(all.replace("@", "R[C]"));
            Due.fault(2, all.replace("@", "^E"));
            Due.fault(2, all.replace("@", "S[^E]"));
            Due.fault(2, all.replace("@", "S[S[^p]]"));
            Due.fault(4, all.replace("@", "^S"));
            Due.fault(4, all.replace("@", "^S[A,A]"));
            Due.fault(4, all.replace("@", "^A[A]"));
            Due.fault(4, all.replace("@", "S[^S]"));
            Due.fault(7, all.replace("@", "R[^A]"));
            Due.fault(7, all.replace("@", "S[R[^A]]"));
            // WORDS first, though they stand behind
            Due.fault(2, all.replace("@", "Two[R[A],^E]"));
            Due.fault(4, all.replace("@", "Two[R[A],^S]"));
        }
        // PARAMS of its func are types in it
        Due.fine(BASE + "func(x Box[p])k[q Any](y q)Two[p,q]{return Two[p,q]{x.v,y}}" + MAIN);
        Due.fault(4, BASE + "func(x Box[p])k()Any{return Box[^p[A]]{x}}" + MAIN);
        Due.fault(7, BASE + "func(x Box[p])k()Any{return N[^p]{x.v}}" + MAIN);
        Due.fine(BASE + "func(x N[p])k()Any{return N[p]{x.n}}" + MAIN);
        Due.fine(BASE + "func(x A)k[p Any,q M](y q)Any{return N[q]{y}}" + MAIN);
        Due.fault(7, BASE + "func(x A)k[q M,p Any](y p)Any{return N[^p]{y}}" + MAIN);
    }

    private static void noStruct() {
        Due.says("{ : 6 (at the TYPE's WORD) no struct");
        Due.fault(6, BASE + "main ^Any{};");
        Due.fault(6, BASE + "main ^M{A{},A{}};");
        Due.fault(6, BASE + "func(x Box[p])k()Any{return ^p{}}" + MAIN);
        Due.fault(6, BASE + "func(x A)k[p Any]()Any{return ^p{}}" + MAIN);
        Due.fault(6, BASE + "type G[a Any] interface{} main ^G[A]{};");
        // behind the TYPE itself, ahead of its E
        Due.fault(7, BASE + "type G[a M] interface{} main G[^A]{};");
        Due.fault(6, BASE + "main ^Any{x};");
        Due.fine(BASE + "main A{};");
    }

    private static void asManyAsFields() {
        Due.says("4 (there) not as many E as FIELDS");
        Due.fine(BASE + "main A{};");
        Due.fault(4, BASE + "main ^A{A{}};");
        Due.fault(4, BASE + "main ^Box[A]{};");
        Due.fine(BASE + "main Box[A]{A{}};");
        Due.fault(4, BASE + "main ^Box[A]{A{},A{}};");
        Due.fault(4, BASE + "main ^Two[A,C]{A{}};");
        Due.fine(BASE + "main Two[A,C]{A{},C{}};");
        Due.fault(4, BASE + "main ^Two[A,C]{A{},C{},A{}};");
        String six = BASE + "type S struct{" + Texts.list(6, "f# A;", "") + "} main ";
        Due.fine(six + "S{" + Texts.list(6, "A{}", ",") + "};");
        Due.fault(4, six + "^S{" + Texts.list(5, "A{}", ",") + "};");
        // ahead of its E
        Due.fault(4, BASE + "main ^Box[A]{x,y};");
        Due.fault(7, BASE + "main N[^A]{};");
    }

    private static void eachPart() {
        Due.says("then each E, and 7 (at its first token) if its type does not IMPLEMENT the FIELD's");
        Due.fine(BASE + "main H{A{},C{}};");
        Due.fault(7, BASE + "main H{A{},^A{}};");
        Due.fault(7, BASE + "main H{C{},^Box[C]{C{}}};");
        Due.fault(7, BASE + "main Two[A,C]{^C{},A{}};");
        Due.fault(7, BASE + "main Two[A,C]{A{},^A{}};");
        Due.fault(7, BASE + "main Box[Box[A]]{^Box[C]{C{}}};");
        Due.fault(7, BASE + "main Box[Box[A]]{Box[A]{^C{}}};");
        // at the E's first token, however long it is
        Due.fault(7, BASE + "main Box[C]{^H{A{},C{}}.i.m()};");
        Due.fine(BASE + "main Box[A]{H{A{},C{}}.i.m()};");
        // each E, then its 7, then the next E
        Due.fault(7, BASE + "main Two[A,C]{^C{},x};");
        Due.fault(2, BASE + "main Two[A,C]{^x,A{}};");
        Due.fault(2, BASE + "main Two[A,C]{A{},^x};");
        // an interface's value for a struct, a PARAM's for another
        Due.fault(7, BASE + "func(x A)k(y Any)Any{return Box[A]{^y}}" + MAIN);
        Due.fine(BASE + "func(x A)k(y Any)Any{return Box[Any]{y}}" + MAIN);
        Due.fault(7, BASE + "func(x Two[p,q])k()Any{return Box[p]{^x.r}}" + MAIN);
        Due.fine(BASE + "func(x Two[p,q])k()Any{return Box[q]{x.r}}" + MAIN);
    }

    private static void fieldOfNoStruct() {
        Due.says(". FIELD: 6 (at the point) not of a struct");
        Due.fine(BASE + "main Box[A]{A{}}.v;");
        Due.fault(6, BASE + "main H{A{},C{}}.h^.v;");
        Due.fault(6, BASE + "main H{A{},C{}}.h ^. v;");
        Due.fault(6, BASE + "func(x Box[p])k()Any{return x.v^.v}" + MAIN);
        Due.fault(6, BASE + "func(x A)k(y M)Any{return y^.m}" + MAIN);
        Due.fine(BASE + "main Box[Box[A]]{Box[A]{A{}}}.v.v;");
    }

    private static void noSuchField() {
        Due.says("2 (at the FIELD) it has none such");
        Due.fault(2, BASE + "main A{}.^v;");
        Due.fault(2, BASE + "main Box[A]{A{}}.^w;");
        Due.fault(2, BASE + "main Box[A]{A{}}.^V;");
        Due.fault(2, BASE + "main Box[A]{A{}} . ^a;");
        // a METHOD is no FIELD
        Due.fault(2, BASE + "main C{}.^m;");
        Due.fine(BASE + "main Two[A,C]{A{},C{}}.l;");
        Due.fine(BASE + "main Two[A,C]{A{},C{}}.r;");
        Due.fault(2, BASE + "main Two[A,C]{A{},C{}}.^v;");
        Due.fault(2, BASE + "main ^x.v;");
    }

    private static void noSuchMethod() {
        Due.says(". METHOD: 2 (at the METHOD) its type has none such");
        Due.fine(BASE + "main C{}.m();");
        Due.fault(2, BASE + "main A{}.^m();");
        Due.fault(2, BASE + "main C{}.^n();");
        Due.fault(2, BASE + "main C{}.^M();");
        Due.fault(2, BASE + "main Box[A]{A{}}.^v();");
        Due.fault(2, BASE + "main A{}.^m[A]();");
        Due.fine(BASE + "main H{A{},C{}}.i.m();");
        Due.fault(2, BASE + "main H{A{},C{}}.h.^m();");
        Due.fine(BASE + "func(x N[p])k()A{return x.n.m()}" + MAIN);
        Due.fault(2, BASE + "func(x Box[p])k()A{return x.v.^m()}" + MAIN);
        // the second PARAM has the METHODS of the second BOUND
        String two = BASE + "type L interface{l()A;} type W[a M,b L] struct{f a;g b;} func(x W[p,q])k()A{return x.";
        Due.fine(two + "f.m()}" + MAIN);
        Due.fine(two + "g.l()}" + MAIN);
        Due.fault(2, two + "f.^l()}" + MAIN);
        Due.fault(2, two + "g.^m()}" + MAIN);
        String own = BASE + "type L interface{l()A;} func(x Box[o])k[p M,q L](y p,z q)A{return ";
        Due.fine(own + "y.m()}" + MAIN);
        Due.fine(own + "z.l()}" + MAIN);
        Due.fault(2, own + "y.^l()}" + MAIN);
        Due.fault(2, own + "z.^m()}" + MAIN);
        // ahead of all in ( )
        Due.fault(2, BASE + "main A{}.^m[E](x);");
        Due.fault(2, BASE + "main ^x.m();");
    }

    private static final String CALLS = BASE + "func(x A)none()A{return x} func(x A)one(y A)A{return y} "
        + "func(x A)two(y A,z C)C{return z} func(x A)g[p Any]()A{return x} func(x A)gg[p Any,q M](y p,z q)q{return z} ";

    private static void asManyAsFormalsAndVars() {
        Due.says("4 (there) not as many TYPES as it has FORMALS, or E as VARS");
        Due.fine(CALLS + "main A{}.none();");
        Due.fault(4, CALLS + "main A{}.^none(A{});");
        Due.fault(4, CALLS + "main A{}.^one();");
        Due.fine(CALLS + "main A{}.one(A{});");
        Due.fault(4, CALLS + "main A{}.^one(A{},A{});");
        Due.fault(4, CALLS + "main A{}.^two(A{});");
        Due.fine(CALLS + "main A{}.two(A{},C{});");
        Due.fault(4, CALLS + "main A{}.^two(A{},C{},A{});");
        Due.fault(4, CALLS + "main A{}.^none[A]();");
        Due.fault(4, CALLS + "main A{}.^g();");
        Due.fine(CALLS + "main A{}.g[A]();");
        Due.fault(4, CALLS + "main A{}.^g[A,A]();");
        Due.fault(4, CALLS + "main A{}.^gg[A](A{},C{});");
        Due.fine(CALLS + "main A{}.gg[A,C](A{},C{});");
        Due.fault(4, CALLS + "main A{}.^gg[A,C,C](A{},C{});");
        Due.fault(4, CALLS + "main A{}.^gg[A,C](A{});");
        // of an interface's METHOD
        Due.fault(4, CALLS + "main H{A{},C{}}.i.^m(A{});");
        Due.fault(4, CALLS + "main H{A{},C{}}.i.^m[A]();");
        // ahead of its TYPES and its E
        Due.fault(4, CALLS + "main A{}.^g[E,E]();");
        Due.fault(4, CALLS + "main A{}.^one(x,y);");
        Due.fault(4, CALLS + "main A{}.^gg[E,E](x);");
        String six = BASE + "func(x A)s[" + Texts.list(6, "p# Any", ",") + "](" + Texts.list(6, "y# p#", ",")
            + ")p5{return y5} main A{}.";
        Due.fine(six + "s[A,A,A,A,A,C](A{},A{},A{},A{},A{},C{}).m();");
        Due.fault(4, six + "^s[A,A,A,A,A](A{},A{},A{},A{},A{},C{});");
        Due.fault(4, six + "^s[A,A,A,A,A,C](A{},A{},A{},A{},A{});");
        Due.fault(7, six + "s[A,A,A,A,A,C](A{},A{},A{},A{},A{},^A{});");
    }

    private static void itsTypes() {
        Due.says("then its TYPES, each WORD by WORD, then each in order 7 as above");
        Due.fault(2, CALLS + "main A{}.gg[^E,F](A{},C{});");
        Due.fault(2, CALLS + "main A{}.gg[A,^F](A{},C{});");
        Due.fault(7, CALLS + "main A{}.gg[A,^A](A{},A{});");
        Due.fault(7, CALLS + "main A{}.gg[A,^Any](A{},A{});");
        Due.fault(7, CALLS + "main A{}.gg[A,^Box[C]](A{},A{});");
        Due.fine(CALLS + "main A{}.gg[A,M](A{},C{});");
        Due.fault(7, CALLS + "main A{}.gg[N[^A],A](A{},A{});");
        Due.fault(2, CALLS + "main A{}.gg[N[A],^E](A{},A{});");
        Due.fault(2, CALLS + "main A{}.gg[A,Box[^E]](A{},A{});");
        // the BOUND has all types put for PARAMS
        String b = BASE + "type G[a Any] interface{g()a;} func(x C)g()A{return A{}} "
            + "func(x Box[p])b[q G[p]]()A{return A{}} func(x A)c[p Any,q G[p]]()A{return x} main ";
        Due.fine(b + "Box[A]{A{}}.b[C]();");
        Due.fault(7, b + "Box[C]{C{}}.b[^C]();");
        Due.fine(b + "A{}.c[A,C]();");
        Due.fault(7, b + "A{}.c[C,^C]();");
        // ahead of its E
        Due.fault(7, CALLS + "main A{}.gg[A,^A](x,y);");
    }

    private static void itsParts() {
        Due.says("then each E, and 7 likewise");
        Due.fault(7, CALLS + "main A{}.one(^C{});");
        Due.fault(7, CALLS + "main A{}.two(^C{},x);");
        Due.fault(2, CALLS + "main A{}.two(^x,A{});");
        Due.fault(7, CALLS + "main A{}.two(A{},^A{});");
        Due.fault(7, CALLS + "main A{}.gg[A,C](^C{},A{});");
        Due.fault(7, CALLS + "main A{}.gg[A,C](A{},^A{});");
        Due.fault(7, CALLS + "main A{}.one(^A{}.two(A{},C{}));");
        Due.fine(CALLS + "main A{}.one(A{}.one(A{}));");
        Due.fault(7, CALLS + "func(x Box[p])k(y p)A{return x.k(^x)}" + MAIN);
        Due.fine(CALLS + "func(x Box[p])k(y p)A{return x.k(x.v)}" + MAIN);
        // what is ahead of the point comes first
        Due.fault(2, CALLS + "main ^x.two(y);");
        Due.fault(4, CALLS + "main ^A{x}.none(A{});");
    }

    private static void castOfAStruct() {
        Due.says(". ( TYPE ): 6 (at the point) of a struct");
        Due.fault(6, BASE + "main A{}^.(A);");
        Due.fault(6, BASE + "main A{} ^.(Any);");
        Due.fault(6, BASE + "main Box[A]{A{}}^.(A);");
        Due.fine(BASE + "main H{A{},C{}}.h.(A);");
        Due.fine(BASE + "func(x Box[p])k()A{return x.v.(A)}" + MAIN);
        Due.fine(BASE + "func(x A)k[p M](y p)A{return y.(M).m()}" + MAIN);
        Due.fault(6, BASE + "func(x Box[p])k()Any{return x^.(A)}" + MAIN);
        // ahead of the TYPE
        Due.fault(6, BASE + "main A{}^.(E);");
    }

    private static void castToAType() {
        Due.says("then the TYPE");
        Due.fault(2, BASE + "main H{A{},C{}}.h.(^E);");
        Due.fault(4, BASE + "main H{A{},C{}}.h.(^Box);");
        Due.fault(7, BASE + "main H{A{},C{}}.h.(N[^A]);");
        Due.fine(BASE + "main H{A{},C{}}.h.(N[C]);");
        // an interface, a PARAM may be any
        Due.fine(BASE + "type L interface{l()A;} main H{A{},C{}}.i.(L);");
        Due.fine(BASE + "func(x Two[p,q])k()q{return x.l.(q)}" + MAIN);
        Due.fault(7, BASE + "main H{A{},C{}}.i.(^N[C]);");
    }

    private static void castToAStruct() {
        Due.says("7 (at its WORD) it is a struct that does not IMPLEMENT the type of what is ahead of the point");
        Due.fault(7, BASE + "main H{A{},C{}}.i.(^A);");
        Due.fine(BASE + "main H{A{},C{}}.i.(C);");
        Due.fault(7, BASE + "main H{A{},C{}}.i . ( ^Box[A] ) ;");
        Due.fine(BASE + "main H{A{},C{}}.h.(Box[A]);");
        Due.says("(of a PARAM its BOUND)");
        Due.fault(7, BASE + "func(x N[p])k()Any{return x.n.(^A)}" + MAIN);
        Due.fine(BASE + "func(x N[p])k()Any{return x.n.(C)}" + MAIN);
        Due.fault(7, BASE + "func(x A)k[q Any,p M](y p)Any{return y.(^A)}" + MAIN);
        Due.fine(BASE + "func(x A)k[q Any,p M](y q)Any{return y.(A)}" + MAIN);
    }

    private static void returned() {
        Due.says("return: 7 (at E's first token) E's type does not IMPLEMENT the TYPE told");
        Due.fine(BASE + "func(x A)k()A{return x}" + MAIN);
        Due.fault(7, BASE + "func(x A)k()C{return ^x}" + MAIN);
        Due.fault(7, BASE + "func(x A)k()M{return ^x}" + MAIN);
        Due.fine(BASE + "func(x C)k()M{return x}" + MAIN);
        Due.fault(7, BASE + "func(x C)k()A{return ^Box[C]{x}.v}" + MAIN);
        Due.fault(7, BASE + "func(x Box[p])k()Box[A]{return ^x}" + MAIN);
        Due.fine(BASE + "func(x Box[p])k()Box[p]{return x}" + MAIN);
        Due.fault(7, BASE + "func(x Two[p,q])k()Two[q,p]{return ^x}" + MAIN);
        Due.fine(BASE + "func(x Two[p,q])k()Two[q,p]{return Two[q,p]{x.r,x.l}}" + MAIN);
        Due.fault(7, BASE + "func(x A)k[p Any,q Any](y p)q{return ^y}" + MAIN);
        Due.fine(BASE + "func(x A)k[p Any,q Any](y p,z q)q{return z}" + MAIN);
        // behind all of its E
        Due.fault(2, BASE + "func(x A)k()C{return Box[A]{^y}}" + MAIN);
    }

    private static void typeOfE() {
        Due.says("E's type: of a VAR as told (of the first one of a func: its NAME with its PARAMS)");
        Due.fine(BASE + "func(x Two[q,p])k()Two[q,p]{return x}" + MAIN);
        Due.fault(7, BASE + "func(x Two[q,p])k()Two[p,q]{return ^x}" + MAIN);
        Due.fine(BASE + "func(x A)k(y M,z C)M{return y}" + MAIN);
        Due.says("of TYPE { } and . ( TYPE ) that");
        Due.fine(BASE + "func(x A)k(y Any)C{return y.(C)}" + MAIN);
        Due.fault(7, BASE + "func(x A)k(y Any)C{return ^y.(M)}" + MAIN);
        Due.says("of . FIELD the FIELD's, of a METHOD its TYPE, with the types put for PARAMS");
        Due.fine(BASE + "func(x Two[p,q])k(y Two[q,Box[p]])Box[p]{return y.r}" + MAIN);
        Due.fault(7, BASE + "func(x Two[p,q])k(y Two[q,Box[p]])Box[q]{return ^y.r}" + MAIN);
        String swap = BASE + "func(x Two[p,q])swap()Two[q,p]{return Two[q,p]{x.r,x.l}} "
            + "func(x Two[p,q])put[r Any](y r)Two[r,q]{return Two[r,q]{y,x.r}} ";
        Due.fine(swap + "func(x A)k(y Two[A,C])Two[C,A]{return y.swap()}" + MAIN);
        Due.fault(7, swap + "func(x A)k(y Two[A,C])Two[A,C]{return ^y.swap()}" + MAIN);
        Due.fine(swap + "func(x A)k(y Two[A,C])Two[M,C]{return y.put[M](C{})}" + MAIN);
        Due.fault(7, swap + "func(x A)k(y Two[A,C])Two[C,C]{return ^y.put[M](C{})}" + MAIN);
    }

    private static void funcsThenMain() {
        Due.says("The fourth time, E");
        Due.fault(2, BASE + "func(x A)k()A{return ^y} func(x A)l()A{return z} main w;");
        Due.fault(2, BASE + "func(x A)k()A{return x} func(x A)l()A{return ^z} main w;");
        Due.fault(2, BASE + "func(x A)k()A{return x} func(x A)l()A{return x} main ^w;");
        Due.fault(7, BASE + "func(x A)k()C{return ^x} func(x A)l()A{return z} main w;");
    }
}
