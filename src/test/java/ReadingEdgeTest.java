/** Terms 1, the form of a PROGRAM and its limits (faults 1 and 5), on both sides of each. */
public final class ReadingEdgeTest {
    private static final String ANY = Texts.ANY;
    private static final String A = Texts.A;
    private static final String MAIN = Texts.MAIN;
    private static final String SIX_FORMALS = "[" + Texts.list(6, "t# Any", ",") + "]";
    private static final String WIDE = ANY + A + "type W" + SIX_FORMALS + " struct{} type H struct{h Any;} ";
    /** A whole PROGRAM with all that the form has. */
    private static final String WHOLE = "type Any interface { } type A struct { } "
        + "type B [ a Any , b Any ] struct { f a ; g B2 [ b ] ; } type B2 [ a Any ] struct { } "
        + "type I [ a Any ] interface { m ( ) a ; n [ c Any , d I [ a ] ] ( x c , y B2 [ d ] ) a ; } "
        + "func ( x B [ p , q ] ) k [ r Any ] ( y r , z Any ) Any { return x . k [ B2 [ r ] ] ( B2 [ r ] { } , y ) . ( Any ) } "
        + "func ( x A ) m ( ) A { return x } "
        + "main B [ A , A ] { A { } , B2 [ A ] { } } . f . m ( ) ;";

    public static void main(String[] args) {
        theForm();
        theEnd();
        eachTokenCounts();
        mayBeMissing();
        wordsBut();
        typeOrVar();
        mostTypes();
        mostFuncs();
        sixTold();
        sixInE();
        noneInOnePair();
        tenInTypes();
        tenInE();
        twentyPoints();
        theFirstFromTheLeft();
        theLeast();
        fullOfValues();
        fullOfVars();
        fullOfTypes();
        Due.end();
    }

    private static void theForm() {
        Due.says("PROGRAM: DECLARATIONS, then main E ;");
        Due.fine(WHOLE);
        Due.fault(1, A + "^");
        Due.fault(2, "main ^x;");
        Due.fault(1, "main x^");
        Due.fault(1, "main x;^;");
        Due.fault(1, "main x;^main x;");
        Due.fault(1, "main x; ^type A struct{}");
        Due.fault(1, "main ^{};");
    }

    private static void theEnd() {
        Due.says("the end being one at the text's length");
        // ahead of each token the text may be over, with blanks behind it
        for (int at = 0; at < WHOLE.length(); at++) {
            if (at == 0 || WHOLE.charAt(at - 1) == ' ') {
                Due.fault(1, WHOLE.substring(0, at) + "^");
                Due.fault(1, WHOLE.substring(0, at) + "  \n^");
            }
        }
        Due.fine(WHOLE + " \n ");
        Due.fault(1, "^");
        Due.fault(1, "\n^");
        Due.fault(1, " ".repeat(3999) + "^");
        Due.fault(1, " ".repeat(4000) + "^");
    }

    private static void eachTokenCounts() {
        Due.says("1 it is none, or can't stand there");
        // # can stand nowhere, and what stands left of it is as it should be
        String[] tokens = WHOLE.split(" ");
        int place = 0;
        for (int i = 0; i < tokens.length; i++) {
            Due.fault(1, WHOLE.substring(0, place) + "^# " + WHOLE.substring(place));
            place += tokens[i].length() + 1;
        }
        Due.fault(1, WHOLE + " ^#");
    }

    private static void mayBeMissing() {
        Due.says("(FORMALS, PARAMS may be missing)");
        Due.fine(ANY + "type B struct{} type C interface{m()B;} func(x B)m()B{return x} main B{}.m();");
        Due.fine(ANY + A + "type B[a Any] struct{} type C[a Any] interface{m[b Any]()B[b];} "
            + "func(x B[c])m[d Any]()B[d]{return B[d]{}} main B[A]{}.m[A]();");
        Due.fault(1, "type B[^] struct{}" + MAIN);
        Due.fault(1, "type B[^] interface{}" + MAIN);
        Due.fault(1, "type B interface{m[^]()B;}" + MAIN);
        Due.fault(1, A + "func(x A[^])m()A{return x}" + MAIN);
        Due.fault(1, A + "func(x A)m[^]()A{return x}" + MAIN);
        Due.fault(1, A + "type B struct{f A[^];}" + MAIN);
        Due.fault(1, A + "main A[^]{};");
        Due.fault(1, A + "main A{}.m[^]();");
        Due.fault(1, A + "main A{}.(A[^]);");
    }

    private static void wordsBut() {
        Due.says("NAMES, PARAMS, FIELDS, METHODS, VARS are WORDS but type struct interface func return main");
        for (String word : new String[] {"type", "struct", "interface", "func", "return", "main"}) {
            everywhere(word, false);
            for (String near : new String[] {word + "s", word + "0", word.substring(0, word.length() - 1),
                word.toUpperCase(), word.substring(0, 1).toUpperCase() + word.substring(1), "x" + word.substring(1)}) {
                everywhere(near, true);
            }
        }
    }

    private static void everywhere(String word, boolean fine) {
        for (String text : new String[] {
            "type ^@ struct{} main @{};",
            ANY + A + "type B[^@ Any] struct{f @;}" + MAIN,
            A + "type B struct{^@ A;}" + MAIN,
            A + "type B interface{^@()A;}" + MAIN,
            ANY + A + "type B interface{m[^@ Any]()@;}" + MAIN,
            A + "type B interface{m(^@ A)A;}" + MAIN,
            A + "func(^@ A)m()A{return @}" + MAIN,
            A + "func(x A)^@()A{return x}" + MAIN,
            A + "func(x A)m(^@ A)A{return @}" + MAIN,
            ANY + A + "type B[a Any] struct{} func(x B[^@])m(y @)@{return y}" + MAIN,
            "type B struct{f ^@;} type @ struct{} main @{};",
            "type B interface{m()^@;} type @ struct{} main @{};",
            "type Zz struct{} func(x ^@)m()@{return x} type @ struct{} main @{};",
            "type A struct{" + (fine ? "@" : "f") + " B;} type B struct{} main A{B{}}.^@;",
        }) {
            String with = text.replace("@", word);
            if (fine) {
                Due.fine(with.replace("^", ""));
            } else {
                Due.fault(1, with);
            }
        }
    }

    private static void typeOrVar() {
        Due.says("A WORD in E that has { or [ behind it begins a TYPE, another one is a VAR");
        Due.fine(A + "main A{};");
        Due.fine(A + "main A \n {};");
        Due.fault(2, A + "main ^A;");
        Due.fault(1, A + "main A^(){};");
        Due.fault(1, A + "main A ^A{};");
        Due.fault(2, A + "main ^A.f;");
        Due.fine(WIDE + "type Q[a Any] struct{} main Q [A] {};");
        Due.fault(1, WIDE + "main Q[A]^;");
        Due.fault(1, WIDE + "main Q[A]^.f;");
        Due.fault(1, WIDE + "main Q[A]^();");
        Due.fault(1, WIDE + "main Q[A]^[A]{};");
        // a VAR's WORD, too
        Due.fault(2, A + "func(x A)m()A{return ^x{}}" + MAIN);
        Due.fault(2, A + "func(x A)m()A{return ^x[A]{}}" + MAIN);
        Due.fault(4, ANY + A + "func(x A)m[p Any]()A{return ^p[A]{}}" + MAIN);
    }

    private static void mostTypes() {
        Due.says("At most 24 types");
        for (String form : new String[] {"struct", "interface"}) {
            String types = Texts.list(23, "type T# " + form + "{}", " ") + " ";
            Due.fine(types + A + MAIN);
            Due.fault(5, types + A + "^type B struct{}" + MAIN);
            Due.fault(5, types + A + "^type B interface{}" + MAIN);
            // whatever is behind its first token
            Due.fault(5, types + A + "^type");
            Due.fault(5, types + A + "^type #");
            Due.fine(types + A + "func(x A)m()A{return x}" + MAIN);
            Due.fault(1, types + A + "^struct");
        }
        Due.same("24", Due.fresh().with(Texts.list(24, "type T# struct{}", " ") + "main T23{};").bench.count(0), 24);
    }

    private static void mostFuncs() {
        Due.says("60 funcs");
        String funcs = A + Texts.list(60, "func(x A)m#()A{return x}", " ");
        Due.fine(funcs + MAIN);
        Due.fault(5, funcs + "^func(x A)n()A{return x}" + MAIN);
        Due.fault(5, funcs + "^func");
        Due.fault(5, funcs + "^func #");
        Due.fine(funcs + " type B struct{}" + MAIN);
        Due.same("60", Due.fresh().with(funcs + MAIN).bench.count(1), 60);
        Due.same("the last one", Due.fresh().with(funcs + " main A{}.m59();").bench.run(2), 0);
        Due.same("the first one", Due.fresh().with(funcs + " main A{}.m0();").bench.run(2), 0);
        Due.fault(2, funcs + " main A{}.^m60();");
    }

    /** Six of them are fine where @ stands, the seventh is one too many. */
    private static void six(String text, String each, String between) {
        String all = Texts.list(6, each, between);
        Due.fine(text.replace("@", all));
        String seventh = each.replace("#", "6");
        Due.fault(5, text.replace("@", all + between + "^" + seventh));
        if (!between.isEmpty()) {
            Due.fault(1, text.replace("@", all + between + "^"));
        }
        Due.fault(1, text.replace("@", all + between + "^func " + seventh));
    }

    private static void sixTold() {
        Due.says("6 of FORMALS, PARAMS, FIELDS, METHODS of an interface, VARS in ( )");
        six(ANY + A + "type B[@] struct{}" + MAIN, "p# Any", ",");
        six(ANY + A + "type B[@] interface{}" + MAIN, "p# Any", ",");
        six(ANY + A + "type B interface{m[@]()A;}" + MAIN, "p# Any", ",");
        six(ANY + A + "func(x A)m[@]()A{return x}" + MAIN, "p# Any", ",");
        six(WIDE + "func(x W[@])m()A{return A{}}" + MAIN, "p#", ",");
        six(A + "type B struct{@}" + MAIN, "f# A;", "");
        six(A + "type B interface{@}" + MAIN, "m#()A;", "");
        six(A + "type B interface{m(@)A;}" + MAIN, "y# A", ",");
        six(A + "func(x A)m(@)A{return y5}" + MAIN, "y# A", ",");
        Due.says("TYPES in one pair of signs");
        six(WIDE + "type B struct{f W[@];}" + MAIN, "A", ",");
        six(WIDE + "type V" + SIX_FORMALS + " interface{} type B[b V[@]] struct{}" + MAIN, "A", ",");
        six(WIDE + "type B interface{m(x W[@])A;}" + MAIN, "A", ",");
        six(WIDE + "type B interface{m()W[@];}" + MAIN, "A", ",");
    }

    private static void sixInE() {
        Due.says("E or TYPES in one pair of signs");
        six(A + "type S struct{" + Texts.list(6, "f# A;", "") + "} main S{@};", "A{}", ",");
        six(A + "func(x A)m(" + Texts.list(6, "y# A", ",") + ")A{return y5} main A{}.m(@);", "A{}", ",");
        six(WIDE + "main W[@]{};", "A", ",");
        six(WIDE + "func(x A)m" + SIX_FORMALS + "()A{return x} main A{}.m[@]();", "A", ",");
        six(WIDE + "main H{A{}}.h.(W[@]);", "A", ",");
        // one pair within another counts anew
        String fields = A + "type S struct{" + Texts.list(5, "f# A;", "") + "s T;} type T struct{"
            + Texts.list(6, "f# A;", "") + "} ";
        Due.fine(fields + "main S{" + Texts.list(5, "A{}", ",") + ",T{" + Texts.list(6, "A{}", ",") + "}};");
    }

    private static void noneInOnePair() {
        Due.says("any number of / or none");
        Due.fine("type A struct{} type I interface{} func(x A)m()A{return A{}} main A{}.m();");
        Due.fault(1, "type A struct{^;} main A{};");
        Due.fault(1, "type A interface{^;} main A{};");
        Due.fault(1, A + "func(x A)m(^,)A{return x} main A{};");
        Due.fault(1, A + "main A{^,};");
        Due.fault(1, A + "main A{}.m(^,);");
        Due.fault(1, A + "main A{}.m(A{}^;");
    }

    /** Ten TYPES within one another where @ stands, and eleven. */
    private static void ten(String text) {
        String types = Texts.QP + "type I[a Any] interface{} type D[d Any] struct{} ";
        boolean bound = text.indexOf('%') >= 0;
        String first = bound ? "I[" : "Q[";
        String place = text.replace('%', '@');
        Due.fine(types + place.replace("@", first + Texts.nest(8, "Q[", "A", "]") + "]"));
        Due.fault(5, types + place.replace("@", first + Texts.nest(9, "Q[", "^A", "]") + "]"));
        Due.fault(1, types + place.replace("@", first + Texts.nest(9, "Q[", "^", "]") + "]"));
        // the second one in a list, too
        Due.fine(types + place.replace("@", first + Texts.nest(7, "Q[", "P[A,A]", "]") + "]"));
        Due.fault(5, types + place.replace("@", first + Texts.nest(7, "Q[", "P[A,Q[^A]]", "]") + "]"));
    }

    private static void tenInTypes() {
        Due.says("10 TYPES or E within one another, as they stand");
        ten("type B struct{f @;}" + MAIN);
        ten("type B[b %] struct{}" + MAIN);
        ten("type B[c Any,b %] interface{}" + MAIN);
        ten("type B interface{m[b %]()A;}" + MAIN);
        ten("type B interface{m(x A,y @)A;}" + MAIN);
        ten("type B interface{m()@;}" + MAIN);
        ten("func(x A)m[b %]()A{return x}" + MAIN);
        ten("func(x A)m(y @)A{return x}" + MAIN);
        ten("func(x A)m(y Any)@{return x.m(y)}" + MAIN);
        ten("func(x D[d])m[e Any](y Any)@{return x.m[e](y)}" + MAIN);
    }

    private static void tenInE() {
        Due.says("10 TYPES or E within one another, as they stand");
        String call = A + "func(x A)m(y A)A{return ";
        // E that are VARS: ten, and eleven
        Due.fine(call + Texts.nest(9, "x.m(", "y", ")") + "}" + MAIN);
        Due.fault(5, call + Texts.nest(10, "x.m(", "^y", ")") + "}" + MAIN);
        // E with a TYPE: nine, and the tenth's TYPE is the eleventh
        String hold = ANY + A + "type S struct{s Any;} main ";
        Due.fine(hold + Texts.nest(8, "S{", "A{}", "}") + ";");
        Due.fault(5, hold + Texts.nest(9, "S{", "^A{}", "}") + ";");
        // in each of a list's places
        String two = ANY + A + "type S struct{s Any;t Any;} main ";
        Due.fine(two + Texts.nest(8, "S{A{},", "A{}", "}") + ";");
        Due.fault(5, two + Texts.nest(8, "S{A{},", "S{^A{},A{}}", "}") + ";");
        Due.fault(5, two + Texts.nest(7, "S{A{},", "S{A{},S{^A{},A{}}}", "}") + ";");
        // a TYPE's own [ ] go on from where its E stands
        for (int outer = 0; outer <= 7; outer++) {
            String q = Texts.QP + "type S struct{s Any;} main ";
            Due.fine(q + Texts.nest(outer, "S{", Texts.nest(8 - outer, "Q[", "A", "]") + "{}", "}") + ";");
            Due.fault(5, q + Texts.nest(outer, "S{", Texts.nest(9 - outer, "Q[", "^A", "]") + "{}", "}") + ";");
        }
    }

    private static void twentyPoints() {
        Due.says("20 . behind one another");
        String m = ANY + A + "func(x A)m()A{return x} func(x A)k(y A)A{return y} "
            + "func(x A)g[p Any]()A{return x} func(x A)c(y Any)Any{return ";
        points(m, "y", ".(Any)");
        points(m, "x", ".m()");
        points(m, "A{}", ".m()");
        points(m, "x", ".g[A]()");
        points(m, "x", ".k(A{})");
        String chain = Texts.list(21, "type T# struct{f T+#;}", " ");
        for (int i = 0; i < 21; i++) {
            chain = chain.replace("T+" + i + ";", "T" + (i + 1) + ";");
        }
        String fields = chain + " type T21 struct{} " + A + "func(x A)c(y T0)";
        Due.fine(fields + "T20{return y" + ".f".repeat(20) + "}" + MAIN);
        Due.fault(5, fields + "T21{return y" + ".f".repeat(20) + "^.f}" + MAIN);
        // all kinds count together
        Due.fine(m + "y" + ".(A).c(y).(A).c(y)".repeat(5) + "}" + MAIN);
        Due.fault(5, m + "y" + ".(A).c(y).(A).c(y)".repeat(5) + "^.m()}" + MAIN);
        // what stands in ( ) and { } counts anew, and so does what comes behind it
        String long20 = "x" + ".m()".repeat(20);
        Due.fine(m + "x" + ".m()".repeat(19) + ".k(" + long20 + ")}" + MAIN);
        Due.fault(5, m + "x" + ".m()".repeat(19) + ".k(" + long20 + "^.m())}" + MAIN);
        Due.fault(5, m + "x" + ".m()".repeat(19) + ".k(" + long20 + ")^.m()}" + MAIN);
        // the point is wrong, whatever is behind it
        Due.fault(5, m + long20 + "^.#}" + MAIN);
        Due.fault(1, m + "x" + ".m()".repeat(19) + ".^#}" + MAIN);
    }

    private static void points(String text, String first, String each) {
        Due.fine(text + first + each.repeat(20) + "}" + MAIN);
        Due.fault(5, text + first + each.repeat(20) + "^" + each + "}" + MAIN);
    }

    private static void theFirstFromTheLeft() {
        Due.says("of the first token from the left that is wrong");
        String seven = Texts.list(6, "f# A;", "");
        Due.fault(5, A + "type B struct{" + seven + "^g A;} #");
        Due.fault(1, A + "^# type B struct{" + seven + "g A;}");
        Due.fault(1, A + "type B struct{" + seven + "} ^# type C struct{" + seven + "g A;}");
        Due.fault(5, Texts.list(24, "type T# struct{}", " ") + " ^type B struct{" + seven + "g A;} #");
        Due.fault(5, Texts.list(24, "type T# struct{}", " ") + "main T0{" + Texts.list(6, "T0{}", ",") + ",^T0{}}; #");
        Due.fault(1, "type A struct{f B;f B;} type A struct{} ^#");
    }

    private static void theLeast() {
        Due.says("the least: 1 .. 5");
        // where one too many would begin stands what can't stand there
        Due.fault(1, A + "type B struct{" + Texts.list(6, "f# A;", "") + "^type A;}" + MAIN);
        Due.fault(1, A + "main A{" + Texts.list(6, "A{}", ",") + ",^{}};");
        Due.fault(1, A + "main A{" + Texts.list(6, "A{}", ",") + ",^abcdefghijklm{}};");
        Due.fault(1, A + "main A[" + Texts.list(6, "A", ",") + ",^;]{};");
        Due.fault(1, A + "main " + "A{".repeat(9) + "^{}");
        Due.fault(1, A + "func(x A)m()A{return " + "x.m(".repeat(10) + "^return");
        Due.fault(1, Texts.list(24, "type T# struct{}", " ") + " ^interface B{} main T0{};");
    }

    private static void fullOfValues() {
        Due.says("The TAPE has at most 4,000 signs");
        String six = "S{y,y,y,y,y,y}";
        String mid = "S{" + Texts.list(6, six, ",") + "}";
        String big = "S{" + Texts.list(6, mid, ",") + "}";
        String text = ANY + A + "type S struct{" + Texts.list(6, "f# Any;", "") + "} "
            + Texts.list(6, "func(x A)k#(y Any)Any{return " + big + "}", " ") + " main A{}.k5(A{}).(S).f5;";
        Due d = Due.fresh().with(" ".repeat(4000 - text.length()) + text);
        Due.same("run", d.bench.run(5000), 0);
        Due.same("steps", d.bench.count(3), 3 + 43 + 2);
        Due.same("value", d.printed(1), mid.replace("y", "A{}"));
        Due.same("instances", d.bench.instances(), 1);
    }

    private static void fullOfVars() {
        Due.says("The TAPE has at most 4,000 signs");
        // 20 interfaces of six METHODS with six VARS, all alike but for the very last VAR
        String methods = "a@b@c@d@e@f@".replace("@", "(a A,b A,c A,d A,e A,f A)A;");
        String text = A + Texts.list(20, "type B# interface{" + methods + "}", " ") + MAIN;
        Due d = Due.fresh().with(text + " ".repeat(4000 - text.length()));
        Due.same("all alike", d.implementing("B19;B0"), 1);
        int last = text.lastIndexOf("f A)A;");
        Due e = Due.fresh().with(text.substring(0, last) + "f B0)A;" + text.substring(last + "f A)A;".length()));
        Due.same("not the last", e.implementing("B19;B0"), 0);
        Due.same("not the last", e.implementing("B0;B19"), 0);
        Due.same("the one ahead of it", e.implementing("B18;B0"), 1);
    }

    private static void fullOfTypes() {
        Due.says("The TAPE has at most 4,000 signs");
        // each call is on a type of 60 WORDS, so that each has to be known
        String type = Texts.sized(60);
        StringBuilder text = new StringBuilder(Texts.QP + "func(x P[a,b])n()P[a,b]{return x} ");
        int funcs = 0;
        for (; text.length() < 3500; funcs++) {
            text.append("func(x A)k").append(funcs).append("(y ").append(type).append(")Any{return y").append(".n()".repeat(20))
                .append("} ");
        }
        text.append("main A{}.k").append(funcs - 1).append("(").append(type).append("{});");
        Due d = Due.fresh().with(text.toString());
        Due.same("run", d.bench.run(5000), 0);
        Due.same("calls", d.bench.calls(), 21);
        Due.same("value", d.printed(1), type + "{}");
        Due.same("instances", d.bench.instances(), 2);
        Due.same("its type", d.isMade(type), 1);
        Due.same("asked", d.implementing(type + ";" + type), 1);
    }
}
