/** Terms 1, the second and third going through: faults 2, 4, 6, 7, 8 of what is told ahead of E. */
public final class ToldEdgeTest {
    private static final String ANY = Texts.ANY;
    private static final String A = Texts.A;
    private static final String MAIN = Texts.MAIN;
    private static final String BOX = ANY + A + "type Box[a Any] struct{v a;} type Two[a Any,b Any] struct{} "
        + "type G[a Any] interface{} ";
    /** C has m(), A has not; N and K ask for it. */
    private static final String NEED = BOX + "type C struct{} func(x C)m()A{return A{}} type M interface{m()A;} "
        + "type N[a M] struct{} type K[a Any,b M] interface{} ";

    public static void main(String[] args) {
        funcNames();
        paramsOfFuncs();
        whichParamsHold();
        paramsHideTypes();
        noSuchType();
        asManyAsFormals();
        thenItsTypes();
        bounds();
        fromTheLeft();
        boundsUnmet();
        boundsOfParams();
        innerOnesFirst();
        withAllTypesPut();
        holdsItself();
        theLongestRing();
        behindAllThat();
        Due.end();
    }

    private static void funcNames() {
        Due.says("a func's NAME: 2 no type, 6 no struct");
        Due.fault(2, A + "func(x ^B)m()A{return A{}}" + MAIN);
        Due.fault(2, A + "func(x ^a)m()A{return A{}}" + MAIN);
        Due.fault(6, ANY + A + "func(x ^Any)m()A{return A{}}" + MAIN);
        Due.fault(6, BOX + "func(x ^G[b])m()A{return A{}}" + MAIN);
        // 2, then 6, then 4
        Due.fault(2, A + "func(x ^B[b])m()A{return A{}}" + MAIN);
        Due.fault(6, ANY + A + "func(x ^Any[b])m()A{return A{}}" + MAIN);
        // its own PARAMS are no types
        Due.fault(2, A + "func(x ^b[b])m()A{return A{}}" + MAIN);
        Due.fine(A + "func(x B)m()A{return A{}} type B struct{}" + MAIN);
    }

    private static void paramsOfFuncs() {
        Due.says("4 not as many PARAMS as it has FORMALS");
        Due.fault(4, A + "func(x ^A[b])m()A{return A{}}" + MAIN);
        Due.fault(4, BOX + "func(x ^Box)m()A{return A{}}" + MAIN);
        Due.fine(BOX + "func(x Box[b])m()A{return A{}}" + MAIN);
        Due.fault(4, BOX + "func(x ^Box[b,c])m()A{return A{}}" + MAIN);
        Due.fault(4, BOX + "func(x ^Two[b])m()A{return A{}}" + MAIN);
        Due.fine(BOX + "func(x Two[b,c])m()A{return A{}}" + MAIN);
        Due.fault(4, BOX + "func(x ^Two[b,c,d])m()A{return A{}}" + MAIN);
        String six = BOX + "type S[" + Texts.list(6, "p# Any", ",") + "] struct{} func(x ";
        Due.fine(six + "S[" + Texts.list(6, "q#", ",") + "])m(y q5)q5{return y}" + MAIN);
        Due.fault(4, six + "^S[" + Texts.list(5, "q#", ",") + "])m()A{return A{}}" + MAIN);
    }

    private static void whichParamsHold() {
        Due.says("a PARAM of the FORMALS, PARAMS in which it stands (they hold for each other's TYPES, too)");
        Due.fine(BOX + "type B[p G[p]] struct{f p;}" + MAIN);
        Due.fine(BOX + "type B[p G[q],q G[p]] struct{}" + MAIN);
        Due.fine(BOX + "type B interface{m[p G[q],q Any](x q)p;}" + MAIN);
        Due.fine(BOX + "func(x A)m[p G[q],q Any](y q)A{return x}" + MAIN);
        Due.says("or that hold where these stand");
        Due.fine(BOX + "type B[p Any] interface{m[q G[p]](x p,y q)Two[p,q];}" + MAIN);
        Due.fine(BOX + "func(x Two[p,q])m[r G[q]](y p,z r)q{return x.m[r](y,z)}" + MAIN);
        Due.says("else 2");
        Due.fault(2, BOX + "type B[p Any] struct{f p;} type C struct{f ^p;}" + MAIN);
        Due.fault(2, BOX + "type B interface{m[q Any](x q)q;n(x ^q)A;}" + MAIN);
        Due.fault(2, BOX + "type B interface{n(x ^q)A;m[q Any](x q)q;}" + MAIN);
        Due.fault(2, BOX + "func(x Two[p,q])m()p{return x.m()} func(x Box[r])n()^p{return x.n()}" + MAIN);
        // the FORMALS' own words don't hold in a func: its PARAMS do
        Due.fault(2, BOX + "func(x Box[b])m(y ^a)A{return A{}}" + MAIN);
        Due.fine(BOX + "func(x Box[b])m(y b)A{return A{}}" + MAIN);
    }

    private static void paramsHideTypes() {
        Due.says("a PARAM .., else a type's NAME");
        Due.fine(BOX + "type B[A Any] struct{f A;} main B[Any]{A{}};");
        Due.fault(4, BOX + "type B[Box Any] struct{f ^Box[A];}" + MAIN);
        Due.fine(BOX + "type B[Box Any] struct{f Box;}" + MAIN);
        // the METHOD's PARAM is nearer than the type's
        Due.fine(BOX + "type M interface{m()A;} type N[a M] struct{} "
            + "type B[a Any] interface{m[a M](x N[a])A;}" + MAIN);
        Due.fault(7, BOX + "type M interface{m()A;} type N[a M] struct{} "
            + "type B[a M] interface{m[a Any](x N[^a])A;}" + MAIN);
    }

    private static void noSuchType() {
        Due.says("else a type's NAME, else 2");
        for (String text : new String[] {"type D struct{f ^@;}", "type D struct{f A;g ^@;}", "type D[a ^@] struct{}",
            "type D[a Any,b ^@] interface{}", "type D interface{m(x ^@)A;}", "type D interface{m(x A,y ^@)A;}",
            "type D interface{m()^@;}", "type D interface{m()A;n()^@;}", "type D interface{m[b ^@]()A;}",
            "func(x A)m(y ^@)A{return x}", "func(x A)m()^@{return x.m()}", "func(x A)m[b ^@]()A{return x}",
            "type D struct{f Box[^@];}", "type D struct{f Two[A,^@];}", "type D struct{f Box[Box[^@]];}"}) {
            Due.fault(2, BOX + text.replace("@", "E") + MAIN);
            Due.fault(2, BOX + text.replace("@", "E[A]") + MAIN);
            Due.fine(BOX + text.replace("^@", "Any") + MAIN);
            Due.fine(BOX + text.replace("^@", "G[A]") + MAIN);
        }
    }

    private static void asManyAsFormals() {
        Due.says("4 a PARAM with [ , or not as many TYPES as there are FORMALS (at the WORD)");
        Due.fault(4, BOX + "type D[a Any] struct{f ^a[A];}" + MAIN);
        Due.fault(4, BOX + "type D[a Any] struct{f Box[^a[E]];}" + MAIN);
        Due.fault(4, BOX + "type D struct{f ^A[A];}" + MAIN);
        Due.fault(4, BOX + "type D struct{f ^Box;}" + MAIN);
        Due.fault(4, BOX + "type D struct{f ^Box[A,A];}" + MAIN);
        Due.fine(BOX + "type D struct{f Box[A];}" + MAIN);
        Due.fault(4, BOX + "type D struct{f ^Two[A];}" + MAIN);
        Due.fault(4, BOX + "type D struct{f ^Two[A,A,A];}" + MAIN);
        Due.fine(BOX + "type D struct{f Two[A,A];}" + MAIN);
        Due.fault(4, BOX + "type D struct{f Two[A,^Box];}" + MAIN);
        Due.fault(4, BOX + "type D[a ^G] struct{}" + MAIN);
        // a type may be told behind, with its FORMALS
        Due.fault(4, BOX + "type D struct{f ^E;} type E[a Any] struct{}" + MAIN);
        Due.fine(BOX + "type D struct{f E[A];} type E[a Any] struct{}" + MAIN);
    }

    private static void thenItsTypes() {
        Due.says("then its TYPES");
        // the WORD with its [ ] comes ahead of what is in them, from the left
        Due.fault(4, BOX + "type D struct{f ^Box[E,F];}" + MAIN);
        Due.fault(2, BOX + "type D struct{f ^E[F];}" + MAIN);
        Due.fault(2, BOX + "type D struct{f Two[^E,F];}" + MAIN);
        Due.fault(4, BOX + "type D struct{f Two[^A[A],F];}" + MAIN);
        Due.fault(2, BOX + "type D struct{f Two[Box[^E],F];}" + MAIN);
        Due.fault(2, BOX + "type D struct{f Two[Box[A],^F];}" + MAIN);
    }

    private static void bounds() {
        Due.says("A BOUND (the TYPE behind a PARAM): 6 (at its WORD, behind its TYPES) no interface");
        for (String text : new String[] {"type D[p ^@] struct{}", "type D[q Any,p ^@] struct{}", "type D[p ^@] interface{}",
            "type D interface{m[p ^@]()A;}", "type D interface{m[q Any,p ^@]()A;}", "func(x A)m[p ^@]()A{return x}",
            "func(x Box[b])m[p ^@]()A{return A{}}"}) {
            Due.fault(6, BOX + text.replace("@", "A") + MAIN);
            Due.fault(6, BOX + text.replace("@", "Box[A]") + MAIN);
            Due.fault(6, BOX + text.replace("@", "p") + MAIN);
            Due.fine(BOX + text.replace("^@", "Any") + MAIN);
            Due.fine(BOX + text.replace("^@", "G[p]") + MAIN);
            Due.fault(2, BOX + text.replace("^@", "Box[^E]") + MAIN);
            Due.fault(4, BOX + text.replace("^@", "Box[^G]") + MAIN);
        }
        // the interface may be told behind
        Due.fine(BOX + "type D[p E] struct{} type E interface{}" + MAIN);
        Due.fault(6, BOX + "type D[p ^E] struct{} type E struct{}" + MAIN);
        // other TYPES may be what they like
        Due.fine(BOX + "type D[p Any] struct{f A;g p;h Any;}" + MAIN);
    }

    private static void fromTheLeft() {
        Due.says("Then it is gone through from the left");
        Due.fault(2, "type B struct{f ^E;} func(x F)m()A{return x}" + MAIN);
        Due.fault(2, A + "func(x ^F)m()A{return x} type B struct{f E;}" + MAIN);
        Due.fault(2, A + "func(x ^F)m[p A](y G)H{return x}" + MAIN);
        Due.fault(6, A + "func(x A)m[p ^A](y G)H{return x}" + MAIN);
        Due.fault(2, ANY + A + "func(x A)m[p Any](y ^G)H{return x}" + MAIN);
        Due.fault(2, ANY + A + "func(x A)m[p Any](y p)^H{return x}" + MAIN);
        Due.fault(6, ANY + A + "type B[p ^A,q E] struct{f F;}" + MAIN);
        Due.fault(2, ANY + A + "type B[p Any,q ^E] struct{f F;}" + MAIN);
        Due.fault(2, A + "type B interface{m(x A,y ^E)F;n()G;}" + MAIN);
    }

    private static void boundsUnmet() {
        Due.says("of each in [ ], in order: 7 (at its first token) it does not IMPLEMENT its BOUND");
        for (String text : new String[] {"type D struct{f N[@];}", "type D struct{f A;g N[@];}", "type D[p K[A,@]] struct{}",
            "type D[q Any,p K[A,@]] interface{}", "type D interface{n(x N[@])A;}", "type D interface{n(x A,y N[@])A;}",
            "type D interface{n()N[@];}", "type D interface{k()A;n()N[@];}", "type D interface{n[p K[A,@]]()A;}",
            "func(x A)n(y N[@])A{return x}", "func(x A)n()N[@]{return x.n()}", "func(x A)n[p K[A,@]]()A{return x}",
            "type D struct{f Box[N[@]];}", "type D struct{f Two[A,N[@]];}", "type D struct{f Two[N[C],N[@]];}"}) {
            Due.fine(NEED + text.replace("@", "C") + MAIN);
            Due.fine(NEED + text.replace("@", "M") + MAIN);
            Due.fault(7, NEED + text.replace("@", "^A") + MAIN);
            Due.fault(7, NEED + text.replace("@", "^Any") + MAIN);
            Due.fault(7, NEED + text.replace("@", "^Box[C]") + MAIN);
        }
        // in the first declaration and in the last
        Due.fault(7, "type D struct{f N[^E];} type M interface{m()M;} type N[a M] struct{} type E struct{} " + A + MAIN);
        Due.fault(7, "type M interface{m()M;} type N[a M] struct{} " + A + "type D struct{f N[^A];}" + MAIN);
        // the first one that is wrong
        String two = NEED + "type W[a M,b M] struct{} type D struct{f ";
        Due.fault(7, two + "W[^A,Any];}" + MAIN);
        Due.fault(7, two + "W[C,^Any];}" + MAIN);
        Due.fine(two + "W[C,M];}" + MAIN);
    }

    private static void boundsOfParams() {
        Due.says("of a PARAM: those of its BOUND");
        Due.fine(NEED + "type D[p M] struct{f N[p];}" + MAIN);
        Due.fault(7, NEED + "type D[p Any] struct{f N[^p];}" + MAIN);
        // the second PARAM has the second BOUND
        Due.fine(NEED + "type D[q Any,p M] struct{f N[p];}" + MAIN);
        Due.fault(7, NEED + "type D[p M,q Any] struct{f N[^q];}" + MAIN);
        Due.fine(NEED + "type D[p M,q Any] struct{} func(x D[r,s])n(y N[r])A{return A{}}" + MAIN);
        Due.fault(7, NEED + "type D[p M,q Any] struct{} func(x D[r,s])n(y N[^s])A{return A{}}" + MAIN);
        Due.fine(NEED + "type D[p Any,q M] struct{} func(x D[r,s])n(y N[s])A{return A{}}" + MAIN);
        // those of a METHOD
        Due.fine(NEED + "type D interface{n[p M](x N[p])A;}" + MAIN);
        Due.fault(7, NEED + "type D interface{n[p Any](x N[^p])A;}" + MAIN);
        Due.fine(NEED + "type D interface{n[p Any,q M](x N[q])A;}" + MAIN);
        Due.fault(7, NEED + "type D interface{n[p M,q Any](x N[^q])A;}" + MAIN);
        Due.fault(7, NEED + "type D interface{n[p M](x N[p])A;k[p Any](x N[^p])A;}" + MAIN);
        Due.fine(NEED + "func(x A)n[p M](y N[p])N[p]{return y}" + MAIN);
        Due.fault(7, NEED + "func(x A)n[p Any]()N[^p]{return x.n[p]()}" + MAIN);
        Due.fault(7, NEED + "func(x Box[p])n[q M](y N[q],z N[^p])A{return A{}}" + MAIN);
        // they hold for each other's BOUNDS
        Due.fine(NEED + "type D[p K[A,q],q M] struct{}" + MAIN);
        Due.fault(7, NEED + "type D[p K[A,^q],q Any] struct{}" + MAIN);
        Due.fine(NEED + "type L[a M] interface{m()A;} type D[p L[p]] struct{}" + MAIN);
        Due.fault(7, NEED + "type D[p K[A,^p]] struct{}" + MAIN);
        Due.fine(NEED + "type L[a M] interface{m()A;} type D interface{n[q Any]()A;k[p L[p]](x p)A;}" + MAIN);
        Due.fault(7, NEED + "type D interface{n[q M]()A;k[p K[A,^p]]()A;}" + MAIN);
        Due.fine(NEED + "type L[a M] interface{m()A;} func(x A)n[q Any]()A{return x} func(x A)k[p L[p]](y p)A{return x}" + MAIN);
        Due.fault(7, NEED + "func(x A)n[q M]()A{return x} func(x A)k[p K[A,^p]](y p)A{return x}" + MAIN);
    }

    private static void innerOnesFirst() {
        Due.says("from the left, inner ones first");
        Due.fault(7, NEED + "type D struct{f N[Box[N[^A]]];}" + MAIN);
        Due.fault(7, NEED + "type D struct{f N[^Box[N[C]]];}" + MAIN);
        Due.fault(7, NEED + "type D struct{f N[N[^A]];}" + MAIN);
        Due.fault(7, NEED + "type D struct{f K[N[^A],A];}" + MAIN);
        Due.fault(7, NEED + "type D struct{f K[N[C],^A];}" + MAIN);
        // from the left
        Due.fault(7, NEED + "type D struct{f Two[N[^A],N[Any]];g N[Any];}" + MAIN);
        Due.fault(7, NEED + "type D struct{f Two[N[C],N[^Any]];g N[A];}" + MAIN);
        Due.fault(7, NEED + "type D struct{f N[C];g N[^A];} type E struct{f N[Any];}" + MAIN);
        Due.fault(7, NEED + "type D[p K[A,^A]] struct{f N[A];}" + MAIN);
        Due.fault(7, NEED + "type D interface{n[p K[A,^A]](x N[A])N[A];}" + MAIN);
        Due.fault(7, NEED + "type D interface{n[p Any](x N[^A])N[A];}" + MAIN);
    }

    private static void withAllTypesPut() {
        Due.says("A type for a PARAM IMPLEMENTS its BOUND so, with all types put for the PARAMS");
        String f = BOX + "type F[a Any,b Any] interface{f(x a)b;} type W[p F[q,r],q Any,r Any] struct{} "
            + "type C struct{} func(x C)f(y A)C{return x} type D struct{d ";
        Due.fine(f + "W[C,A,C];}" + MAIN);
        Due.fault(7, f + "W[^C,C,A];}" + MAIN);
        Due.fault(7, f + "W[^C,A,A];}" + MAIN);
        Due.fault(7, f + "W[^A,A,A];}" + MAIN);
        // the BOUND tells of its own PARAM
        String eq = BOX + "type Eq[a Eq[a]] interface{eq(x a)A;} type S[a Eq[a]] struct{} "
            + "type C struct{} func(x C)eq(y C)A{return y.eq(x)} type E struct{} func(x E)eq(y C)A{return A{}} ";
        Due.fine(eq + "type D struct{d S[C];}" + MAIN);
        Due.fault(7, eq + "type D struct{d S[^E];}" + MAIN);
    }

    private static void holdsItself() {
        Due.says("8 (at its NAME) a struct that holds itself (it has a FIELD whose TYPE is it, or a struct that holds it)");
        Due.fault(8, "type ^B struct{f B;} " + A + MAIN);
        Due.fault(8, A + "type ^B struct{f A;g A;h A;i A;j A;k B;}" + MAIN);
        Due.fault(8, A + "type ^B struct{f C;} type C struct{f B;}" + MAIN);
        Due.fault(8, A + "type ^B struct{f A;g C;} type C struct{f D;} type D struct{f A;g B;}" + MAIN);
        Due.fault(8, ANY + A + "type ^B[a Any] struct{f B[a];}" + MAIN);
        Due.fault(8, ANY + A + "type ^B[a Any] struct{f B[A];}" + MAIN);
        // what holds a struct that holds itself need not hold itself
        Due.fault(8, A + "type C struct{f B;} type ^B struct{f B;}" + MAIN);
        Due.fault(8, A + "type C struct{f B;} type ^B struct{f D;} type D struct{f B;}" + MAIN);
        // through an interface, a PARAM, a HEAD it does not
        Due.fine(A + "type B struct{f I;} type I interface{m()B;}" + MAIN);
        Due.fine(BOX + "type B struct{f Box[B];}" + MAIN);
        Due.fine(A + "type B struct{f A;} func(x B)m(y B)B{return y}" + MAIN);
        Due.fine(A + "type B struct{f C;g C;} type C struct{f A;g A;} type D struct{f B;g C;h A;}" + MAIN);
        Due.says("the first from the left");
        Due.fault(8, A + "type ^C struct{f B;} type B struct{f C;}" + MAIN);
        Due.fault(8, A + "type D struct{f E;} type ^E struct{f F;} type F struct{f E;} type G struct{f G;}" + MAIN);
    }

    private static void theLongestRing() {
        Due.says("or a struct that holds it");
        for (boolean down : new boolean[] {false, true}) {
            StringBuilder row = new StringBuilder();
            for (int i = 0; i < 23; i++) {
                int next = down ? (i + 22) % 23 : (i + 1) % 23;
                row.append("type T").append(i).append(" struct{f T").append(next).append(";} ");
            }
            String ring = row.toString();
            Due.fault(8, A + "type ^T0" + ring.substring("type T0".length()) + MAIN);
            // cut where it closes it is none
            Due.fine(A + ring.replace(down ? "T0 struct{f T22;}" : "T22 struct{f T0;}",
                down ? "T0 struct{f A;}" : "T22 struct{f A;}") + MAIN);
        }
    }

    private static void behindAllThat() {
        Due.says("Behind all that: 8");
        Due.fault(7, "type B struct{f B;} type M interface{m()M;} type N[a M] struct{} " + A
            + "func(x A)n(y N[^A])A{return x}" + MAIN);
        Due.fault(8, "type ^B struct{f B;} type M interface{m()M;} type N[a M] struct{} " + A
            + "func(x A)n()A{return N[A]{}}" + MAIN);
        Due.says("The third time, these TYPES");
        Due.fault(2, NEED + "type D struct{f N[A];} type E struct{f ^F;}" + MAIN);
        Due.fault(6, NEED + "type D struct{f N[A];} type E[p ^A] struct{}" + MAIN);
    }
}
