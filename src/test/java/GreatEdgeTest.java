/** TYPES of 60 WORDS and of 61, wherever one is told or would come to be. */
public final class GreatEdgeTest {
    private static final String X29 = Texts.sized(29);
    private static final String X30 = Texts.sized(30);
    private static final String MAIN = Texts.MAIN;
    /** With 29 WORDS put Q[P[a,a]] has 60, with 30 put P[a,a] has 61. */
    private static final String BASE = Texts.QP + "type G[a Any] interface{} type GG[a Any,b Any] interface{} "
        + "type R[a Any] struct{} type F1[a Any] struct{f P[a,a];} type F2[a Any] struct{f Q[P[a,a]];} "
        + "type H1[a Any] interface{h()P[a,a];} type H2[a Any] interface{h()Q[P[a,a]];} ";
    /** D1 has h() as H1[A] asks for it, D2 as H2[X29] does, W1[a] and W2[a] with their own a. */
    private static final String ASKED = BASE + "type D1 struct{} func(x D1)h()P[A,A]{return P[A,A]{}} "
        + "type D2 struct{} func(x D2)h()Q[P[" + X29 + "," + X29 + "]]{return x.h()} "
        + "type W1[a Any] struct{} func(x W1[b])h()P[b,b]{return P[b,b]{}} "
        + "type W2[a Any] struct{} func(x W2[b])h()Q[P[b,b]]{return Q[P[b,b]]{}} ";

    public static void main(String[] args) {
        told();
        toldInE();
        innerOnes();
        paramsCount();
        boundsPut();
        askedInBounds();
        fieldsOfAValue();
        fieldBehindAPoint();
        typeOfAMethod();
        varsOfAMethod();
        boundsOfAMethod();
        askedInE();
        run();
        runAsked();
        implementing();
        isMade();
        instances();
        instancesAsked();
        Due.end();
    }

    private static void told() {
        Due.says("9 (at the WORD) more than 60 WORDS in all");
        for (String text : new String[] {"type B struct{f @;}", "type B struct{e A;f @;}", "type B interface{m(x @)A;}",
            "type B interface{m()@;}", "func(x A)m(y A,z @)A{return x}", "func(x A)m()@{return x.m()}"}) {
            Due.fine(Texts.QP + text.replace("@", Texts.sized(59)) + MAIN);
            Due.fine(Texts.QP + text.replace("@", Texts.sized(60)) + MAIN);
            Due.fault(9, Texts.QP + text.replace("@", "^" + Texts.sized(61)) + MAIN);
            Due.fault(9, Texts.QP + text.replace("@", "^" + Texts.sized(62)) + MAIN);
            Due.fault(9, Texts.QP + text.replace("@", "^P[" + Texts.sized(60) + "," + Texts.sized(60) + "]") + MAIN);
        }
        for (String text : new String[] {"type B[b @] struct{}", "type B[b @] interface{}", "type B interface{m[b @]()A;}",
            "func(x A)m[b @]()A{return x}"}) {
            Due.fine(BASE + text.replace("@", "G[" + Texts.sized(59) + "]") + MAIN);
            Due.fault(9, BASE + text.replace("@", "^G[" + Texts.sized(60) + "]") + MAIN);
        }
    }

    private static void toldInE() {
        Due.says("A TYPE in it: all of this at once");
        for (String text : new String[] {"main @{};", "main B{A{}}.b.(@);", "main A{}.g[@]();",
            "func(x A)k()Any{return @{}}" + MAIN}) {
            String all = Texts.QP + "type B struct{b Any;} func(x A)g[p Any]()A{return x} " + text;
            Due.fine(all.replace("@", Texts.sized(60)));
            Due.fault(9, all.replace("@", "^" + Texts.sized(61)));
            // ahead of what comes behind its WORDS
            Due.fault(9, all.replace("@", "^P[" + Texts.sized(30) + "," + Texts.sized(30) + "]"));
        }
        // each of a METHOD's TYPES by itself
        String two = Texts.QP + "func(x A)g[p Any,q Any]()A{return x} main A{}.g[";
        Due.fine(two + Texts.sized(60) + "," + Texts.sized(60) + "]();");
        Due.fault(9, two + Texts.sized(60) + ",^" + Texts.sized(61) + "]();");
    }

    private static void innerOnes() {
        Due.says("then its TYPES; 9 (at the WORD)");
        String field = Texts.QP + "type B struct{f @;}" + MAIN;
        Due.fine(field.replace("@", "Q[" + Texts.sized(59) + "]"));
        Due.fault(9, field.replace("@", "^Q[" + Texts.sized(60) + "]"));
        Due.fault(9, field.replace("@", "Q[^" + Texts.sized(61) + "]"));
        Due.fault(9, field.replace("@", "P[A,^" + Texts.sized(61) + "]"));
        Due.fault(2, field.replace("@", "P[" + Texts.sized(60) + ",^E]"));
        Due.fault(4, field.replace("@", "P[" + Texts.sized(60) + ",^A[A]]"));
        Due.fault(4, field.replace("@", "^P[" + Texts.sized(61) + "]"));
    }

    private static void paramsCount() {
        Due.says("more than 60 WORDS in all");
        // a PARAM is a WORD as any other
        String params = Texts.QP + "type B[p Any,q Any] struct{f @;}" + MAIN;
        Due.fine(params.replace("@", "P[p,P[q," + Texts.sized(56) + "]]"));
        Due.fault(9, params.replace("@", "^P[p,P[q," + Texts.sized(57) + "]]"));
    }

    private static void boundsPut() {
        Due.says("Where types are put for PARAMS and a TYPE of more than 60 WORDS would come to be: 9, "
            + "at the token that 7 would have");
        String n = BASE + "type N1[a Any,b GG[a,a]] struct{} type N2[a Any,b G[P[a,a]]] struct{} ";
        for (String text : new String[] {"type B struct{f @;}" + MAIN, "type B interface{m()@;}" + MAIN,
            "func(x A)m(y @)A{return x}" + MAIN, "main @{};"}) {
            Due.fine(n + text.replace("@", "N2[" + X29 + ",A]"));
            Due.fault(9, n + text.replace("@", "N1[" + X30 + ",^A]"));
            Due.fine(n + text.replace("@", "N1[" + X29 + ",A]"));
            Due.fault(9, n + text.replace("@", "N2[" + X30 + ",^A]"));
            Due.fault(9, n + text.replace("@", "Q[N1[" + X30 + ",^A]]"));
        }
    }

    private static void askedInBounds() {
        Due.says("a TYPE of more than 60 WORDS would come to be: 9, at the token that 7 would have");
        String s = ASKED + "type S1[a Any,b H1[a]] struct{} type S2[a Any,b H2[a]] struct{} type S3[b H1[A]] struct{} ";
        for (String text : new String[] {"type B struct{f @;}" + MAIN, "func(x A)m()@{return x.m()}" + MAIN, "main @{};"}) {
            // the interface's own: 60, 61
            Due.fine(s + text.replace("@", "S2[" + X29 + ",D2]"));
            Due.fine(s + text.replace("@", "S2[" + X29 + ",W2[" + X29 + "]]"));
            Due.fault(9, s + text.replace("@", "S1[" + X30 + ",^D1]"));
            Due.fault(7, s + text.replace("@", "S1[" + X29 + ",^D1]"));
            // what has no such METHOD is not asked any more
            Due.fault(7, s + text.replace("@", "S1[" + X30 + ",^A]"));
            // that of the type that is asked
            Due.fine(s + text.replace("@", "S3[D1]"));
            Due.fault(9, s + text.replace("@", "S3[^W1[" + X30 + "]]"));
            Due.fault(7, s + text.replace("@", "S3[^W1[" + X29 + "]]"));
            Due.fault(7, s + text.replace("@", "S3[^W2[" + X29 + "]]"));
        }
    }

    private static void fieldsOfAValue() {
        Due.says("9, at the token that 7 would have (of a { })");
        Due.fine(BASE + "main F2[" + X29 + "]{Q[P[" + X29 + "," + X29 + "]]{}};");
        Due.fault(7, BASE + "main F2[" + X29 + "]{^A{}};");
        Due.fault(9, BASE + "main F1[" + X30 + "]{^A{}};");
        Due.fault(7, BASE + "main F1[" + X29 + "]{^A{}};");
        Due.fault(9, BASE + "main F2[" + X30 + "]{^A{}};");
        // the E itself comes ahead of it
        Due.fault(2, BASE + "main F1[" + X30 + "]{^y};");
        Due.fault(4, BASE + "main ^F1[" + X30 + "]{};");
        // each in its turn
        String two = BASE + "type F3[a Any] struct{e A;f P[a,a];g A;} main ";
        Due.fault(9, two + "F3[" + X30 + "]{A{},^A{},R[A]{}};");
        Due.fault(7, two + "F3[" + X30 + "]{^R[A]{},A{},A{}};");
        Due.fault(2, two + "F3[" + X30 + "]{A{},^y,A{}};");
    }

    private static void fieldBehindAPoint() {
        Due.says("or at .. the FIELD whose TYPE it is");
        Due.fine(BASE + "func(x A)k(y F2[" + X29 + "])Any{return y.f}" + MAIN);
        Due.fault(9, BASE + "func(x A)k(y F1[" + X30 + "])Any{return y.^f}" + MAIN);
        Due.fault(9, BASE + "func(x A)k(y F1[" + X30 + "])Any{return y . ^f .f}" + MAIN);
        Due.fine(BASE + "func(x A)k(y F1[" + X29 + "])Any{return y.f}" + MAIN);
        Due.fault(9, BASE + "func(x A)k(y F2[" + X30 + "])Any{return y.^f}" + MAIN);
        // another FIELD of it is none of that
        Due.fine(BASE + "type F3[a Any] struct{e a;f P[a,a];} func(x A)k(y F3[" + X30 + "])Any{return y.e}" + MAIN);
    }

    private static void typeOfAMethod() {
        Due.says("or at the METHOD .. whose TYPE it is");
        String m = BASE + "func(x R[p])one()P[p,p]{return x.one()} func(x R[p])two()Q[P[p,p]]{return x.two()} "
            + "func(x A)o[p Any]()P[p,p]{return x.o[p]()} func(x A)t[p Any]()Q[P[p,p]]{return x.t[p]()} "
            + "func(x R[p])mix[q Any](y A)P[p,q]{return x.mix[q](y)} main ";
        Due.fine(m + "R[" + X29 + "]{}.two();");
        Due.fault(9, m + "R[" + X30 + "]{}.^one();");
        Due.fine(m + "R[" + X29 + "]{}.one();");
        Due.fault(9, m + "R[" + X30 + "]{}.^two();");
        Due.fine(m + "A{}.t[" + X29 + "]();");
        Due.fault(9, m + "A{}.^o[" + X30 + "]();");
        Due.fine(m + "R[" + X29 + "]{}.mix[" + X30 + "](A{});");
        Due.fine(m + "R[" + X30 + "]{}.mix[" + X29 + "](A{});");
        Due.fault(9, m + "R[" + X30 + "]{}.^mix[" + X30 + "](A{});");
        // of an interface's METHOD
        Due.fault(9, ASKED + "func(x A)k(y H1[" + X30 + "])Any{return y.^h()}" + MAIN);
        Due.fine(ASKED + "func(x A)k(y H2[" + X29 + "])Any{return y.h()}" + MAIN);
    }

    private static void varsOfAMethod() {
        Due.says("9, at the token that 7 would have (of a METHOD's E)");
        String m = BASE + "func(x R[p])one(y P[p,p])A{return A{}} func(x R[p])two(y Q[P[p,p]])A{return A{}} "
            + "func(x R[p])end(y A,z P[p,p])A{return y} func(x A)o[p Any](y P[p,p])A{return x} main ";
        Due.fine(m + "R[" + X29 + "]{}.two(Q[P[" + X29 + "," + X29 + "]]{});");
        Due.fault(9, m + "R[" + X30 + "]{}.one(^A{});");
        Due.fault(7, m + "R[" + X29 + "]{}.one(^A{});");
        Due.fault(9, m + "R[" + X30 + "]{}.end(A{},^A{});");
        Due.fault(7, m + "R[" + X30 + "]{}.end(^R[A]{},A{});");
        Due.fault(2, m + "R[" + X30 + "]{}.end(A{},^y);");
        Due.fault(9, m + "A{}.o[" + X30 + "](^A{});");
        Due.fine(m + "A{}.o[" + X29 + "](P[" + X29 + "," + X29 + "]{});");
    }

    private static void boundsOfAMethod() {
        Due.says("9, at the token that 7 would have (of a METHOD's TYPES)");
        String m = BASE + "func(x R[p])one[q GG[p,p]]()A{return A{}} func(x R[p])two[q G[P[p,p]]]()A{return A{}} "
            + "func(x A)o[p Any,q GG[p,p]]()A{return x} func(x A)t[p Any,q G[P[p,p]]]()A{return x} main ";
        Due.fine(m + "R[" + X29 + "]{}.two[A]();");
        Due.fault(9, m + "R[" + X30 + "]{}.one[^A]();");
        Due.fine(m + "R[" + X29 + "]{}.one[A]();");
        Due.fault(9, m + "R[" + X30 + "]{}.two[^A]();");
        Due.fine(m + "A{}.t[" + X29 + ",A]();");
        Due.fault(9, m + "A{}.o[" + X30 + ",^A]();");
        // WORDS come ahead
        Due.fault(2, m + "A{}.o[" + X30 + ",^E]();");
        // asked: the type's METHOD, the BOUND's
        String h = ASKED + "func(x R[p])one[q H1[p]]()A{return A{}} func(x R[p])two[q H2[p]]()A{return A{}} main ";
        Due.fine(h + "R[" + X29 + "]{}.two[D2]();");
        Due.fault(9, h + "R[" + X30 + "]{}.one[^D1]();");
        Due.fault(7, h + "R[" + X30 + "]{}.one[^A]();");
        Due.fault(9, h + "R[A]{}.one[^W1[" + X30 + "]]();");
        Due.fault(7, h + "R[A]{}.one[^W1[" + X29 + "]]();");
    }

    private static void askedInE() {
        Due.says("9, at the token that 7 would have (in asking)");
        String v = ASKED + "type V1[a Any] struct{v H1[a];} type V2[a Any] struct{v H2[a];} ";
        Due.fine(v + "main V2[" + X29 + "]{D2{}};");
        Due.fault(9, v + "main V1[" + X30 + "]{^D1{}};");
        Due.fault(7, v + "main V1[" + X30 + "]{^A{}};");
        Due.fault(7, v + "main V1[" + X29 + "]{^D1{}};");
        Due.fault(9, v + "main V1[A]{^W1[" + X30 + "]{}};");
        Due.fault(7, v + "main V1[A]{^W1[" + X29 + "]{}};");
        String m = ASKED + "func(x R[p])one(y H1[p])A{return A{}} func(x R[p])two(y H2[p])A{return A{}} main ";
        Due.fine(m + "R[" + X29 + "]{}.two(D2{});");
        Due.fault(9, m + "R[" + X30 + "]{}.one(^D1{});");
        Due.fault(7, m + "R[" + X30 + "]{}.one(^A{});");
        // . ( TYPE ), at its WORD
        Due.fine(ASKED + "func(x A)k(y H2[" + X29 + "])Any{return y.(D2)}" + MAIN);
        Due.fault(9, ASKED + "func(x A)k(y H1[" + X30 + "])Any{return y.(^D1)}" + MAIN);
        Due.fault(7, ASKED + "func(x A)k(y H1[" + X30 + "])Any{return y.(^A)}" + MAIN);
        Due.fine(ASKED + "func(x A)k(y H1[" + X30 + "])Any{return y.(Any)}" + MAIN);
        // return, at E's first token
        Due.fine(ASKED + "func(x A)k(y D2)H2[" + X29 + "]{return y}" + MAIN);
        Due.fault(9, ASKED + "func(x A)k(y D1)H1[" + X30 + "]{return ^y}" + MAIN);
        Due.fault(7, ASKED + "func(x A)k(y A)H1[" + X30 + "]{return ^y}" + MAIN);
        // an interface, too, is asked METHOD by METHOD
        Due.fine(ASKED + "func(x A)k(y H2[" + X29 + "])H2[" + X29 + "]{return y}" + MAIN);
        Due.fault(9, ASKED + "func(x A)k(y H1[" + X30 + "])H1[" + X30 + "]{return ^y}" + MAIN);
    }

    private static void run(String text, int outcome, int steps) {
        Due d = Due.fresh().with(ASKED + "func(x A)id[p Any]()Any{return x} " + text);
        Due.same(text, d.bench.run(5000), outcome);
        Due.same(text + " steps", d.bench.count(3), steps);
    }

    private static void run() {
        Due.says("A TYPE of more than 60 WORDS that would come to be: GREAT");
        // of a { }
        run("func(x A)k[p Any]()Any{return Q[P[p,p]]{}} main A{}.k[" + X29 + "]();", 0, 2 + 60 + 1);
        run("func(x A)k[p Any]()Any{return P[p,p]{}} main A{}.k[" + X30 + "]();", 4, 2);
        run("func(x A)k[p Any]()Any{return P[p,p]{}} main A{}.k[" + X29 + "]();", 0, 2 + 59 + 1);
        // of a METHOD's TYPES
        run("func(x A)k[p Any]()Any{return x.id[Q[P[p,p]]]()} main A{}.k[" + X29 + "]();", 0, 2 + 60 + 1);
        run("func(x A)k[p Any]()Any{return x.id[P[p,p]]()} main A{}.k[" + X30 + "]();", 4, 2);
        // of a ( TYPE )
        run("func(x A)k[p Any](y Any)Any{return y.(Q[P[p,p]])} main A{}.k[" + X29 + "](A{});", 1, 3 + 60 + 1);
        run("func(x A)k[p Any](y Any)Any{return y.(Q[P[p,p]])} main A{}.k[" + X29 + "](Q[P[" + X29 + "," + X29
            + "]]{});", 0, 3 + 60 + 1);
        run("func(x A)k[p Any](y Any)Any{return y.(P[p,p])} main A{}.k[" + X30 + "](A{});", 4, 3);
        // a value's own TYPES are put as well
        run("func(x R[p])k()Any{return Q[P[p,p]]{}} main R[" + X29 + "]{}.k();", 0, 2 + 60 + 1);
        run("func(x R[p])k()Any{return P[p,p]{}} main R[" + X30 + "]{}.k();", 4, 2);
        // what E only has as its type does not come to be
        run("func(x R[p])k()Any{return x.f1(x).f} func(x R[p])f1(y Any)F1[p]{return y.(F1[p])} "
            + "main R[" + X30 + "]{}.k();", 1, 3 + 31 + 1);
    }

    private static void runAsked() {
        Due.says("so, too, in asking whether the value IMPLEMENTS");
        String k = "func(x A)any(y Any)Any{return y} func(x A)k1[p Any](y Any)Any{return y.(H1[p])} "
            + "func(x A)k2[p Any](y Any)Any{return y.(H2[p])} main A{}.";
        run(k + "k2[" + X29 + "](D2{});", 0, 3 + 30 + 1);
        run(k + "k2[" + X29 + "](W2[" + X29 + "]{});", 0, 3 + 30 + 1);
        run(k + "k1[" + X30 + "](D1{});", 4, 3 + 31);
        run(k + "k1[" + X29 + "](D1{});", 1, 3 + 30 + 1);
        run(k + "k1[" + X30 + "](A{});", 1, 3 + 31 + 1);
        run(k + "any(W1[" + X30 + "]{}).(H1[A]);", 4, 3);
        run(k + "any(W1[" + X29 + "]{}).(H1[A]);", 1, 4);
        run(k + "any(D1{}).(H1[A]);", 0, 4);
    }

    private static void implementing() {
        Due.says("-2: one of them is not well formed (2, 4, 7, 9)");
        Due d = Due.fresh().with(ASKED + MAIN);
        Due.same("60", d.implementing(Texts.sized(60) + ";Any"), 1);
        Due.same("61", d.implementing(Texts.sized(61) + ";Any"), -2);
        Due.same("60", d.implementing("A;" + Texts.sized(60)), 0);
        Due.same("61", d.implementing("A;" + Texts.sized(61)), -2);
        Due.same("60 and 60", d.implementing(Texts.sized(60) + ";" + Texts.sized(60)), 1);
        Due.same("asked, 60", d.implementing("D2;H2[" + X29 + "]"), 1);
        Due.same("asked, 60", d.implementing("W2[" + X29 + "];H2[" + X29 + "]"), 1);
        Due.same("asked, 61", d.implementing("D1;H1[" + X30 + "]"), -2);
        Due.same("asked, 61", d.implementing("W1[" + X30 + "];H1[A]"), -2);
        Due.same("asked, 59", d.implementing("W1[" + X29 + "];H1[A]"), 0);
        Due.same("not asked", d.implementing("A;H1[" + X30 + "]"), 0);
    }

    private static void isMade() {
        Due.says("-1, -2 as implementing()");
        Due d = Due.fresh().with(ASKED + "main " + Texts.sized(60) + "{};");
        d.bench.instances();
        Due.same("60, made", d.isMade(Texts.sized(60)), 1);
        Due.same("60, not made", d.isMade("Q[" + Texts.sized(59) + "]"), 0);
        Due.same("61", d.isMade(Texts.sized(61)), -2);
        Due.same("61", d.isMade("Q[" + Texts.sized(60) + "]"), -2);
    }

    private static void made(String text, boolean due) {
        Due d = Due.fresh().with(ASKED + "func(x A)id[p Any]()Any{return x} " + text);
        Due.same(text, d.bench.instances() >= 0 ? 1 : 0, due ? 1 : 0);
        Due.same(text, d.bench.made(0) >= 0 ? 1 : 0, due ? 1 : 0);
    }

    private static void instances() {
        Due.says("If a TYPE would have more than 60 WORDS .. they can't be made");
        made("func(x A)k[p Any]()Any{return Q[P[p,p]]{}} main A{}.k[" + X29 + "]();", true);
        made("func(x A)k[p Any]()Any{return P[p,p]{}} main A{}.k[" + X30 + "]();", false);
        made("func(x A)k[p Any]()Any{return x.id[Q[P[p,p]]]()} main A{}.k[" + X29 + "]();", true);
        made("func(x A)k[p Any]()Any{return x.id[P[p,p]]()} main A{}.k[" + X30 + "]();", false);
        made("func(x A)k[p Any](y Any)Any{return y.(Q[P[p,p]])} main A{}.k[" + X29 + "](A{});", true);
        made("func(x A)k[p Any](y Any)Any{return y.(P[p,p])} main A{}.k[" + X30 + "](A{});", false);
        // the type of what is ahead of a METHOD's point
        String w = "type I1[a Any,b Any] interface{w()Any;} type I2[a Any] interface{w()Any;} "
            + "type V1[a Any] struct{f I1[a,a];} type V2[a Any] struct{f I2[P[a,a]];} "
            + "func(x A)k1[p Any](y Any)Any{return y.(V1[p]).f.w()} func(x A)k2[p Any](y Any)Any{return y.(V2[p]).f.w()} "
            + "main A{}.";
        made(w + "k2[" + X29 + "](A{});", true);
        made(w + "k1[" + X30 + "](A{});", false);
        // of main's own E, told as they stand
        made("main " + Texts.sized(60) + "{};", true);
    }

    private static void instancesAsked() {
        Due.says("(in asking whether one IMPLEMENTS, too)");
        String k = "func(x A)k1[p Any](y Any)Any{return y.(H1[p]).h()} func(x A)k2[p Any](y Any)Any{return y.(H2[p]).h()} "
            + "main A{}.";
        made(k + "k2[" + X29 + "](D2{});", true);
        made(k + "k1[" + X30 + "](D1{});", false);
        made(k + "k1[" + X29 + "](D1{});", true);
        made(k + "k1[" + X30 + "](A{});", true);
        made(k + "k1[A](W1[" + X30 + "]{});", false);
        made(k + "k1[A](W1[" + X29 + "]{});", true);
        // no CALL, no asking
        made("main P[D1,H1[" + X30 + "]]{};", true);
    }
}
