/** Promises 5, 6, 7: runs, where they fail, and how many calls they make. */
public final class RunTest {
    private static final String BASE = "type Any interface{} type A struct{} type C struct{} "
        + "type Box[a Any] struct{v a;} type P[a Any,b Any] struct{x a;y b;} ";

    public static void main(String[] args) {
        values();
        wrongCalls();
        order();
        stepsOfTypes();
        spent();
        fails();
        deep();
        great();
        greatAheadOfSpent();
        greatInAsking();
        stepsInAll();
        longValues();
        Due.end();
    }

    /** Runs with n STEPS; tells outcome, STEPS, calls and where it failed. */
    private static void run(String text, int n, int outcome, int steps, int calls) {
        String marked = BASE + text;
        int point = marked.indexOf('^');
        Due d = Due.fresh().with(marked.replace("^", ""));
        String what = text + " run(" + n + ")";
        Due.same(what, d.bench.run(n), outcome);
        Due.same(what + " steps", d.bench.count(3), steps);
        Due.same(what + " steps in all", d.bench.count(2), steps);
        Due.same(what + " calls", d.bench.calls(), calls);
        Due.same(what + " failed", d.bench.failed(), outcome == 1 ? point : -1);
        Due.same(what + " has a value", d.bench.print(1) >= 0 ? 1 : 0, outcome == 0 ? 1 : 0);
    }

    private static void values() {
        run("main A{};", 5000, 0, 1, 0);
        run("main P[A,C]{A{},C{}}.y;", 5000, 0, 4, 0);
        run("func(x A)m(y C,z C)C{return z} main A{}.m(C{},C{});", 10, 0, 4, 1);
        run("func(x A)m()A{return x} main A{}.m().m().m();", 10, 0, 4, 3);
        run("func(x A)m()Any{return x} main A{}.m().(A).m();", 10, 0, 4, 2);
        // the func is that of the value's struct
        run("type M interface{m()Any;} func(x A)m()Any{return C{}} func(x C)m()Any{return x} "
            + "main Box[M]{A{}}.v.m();", 10, 0, 5, 1);
    }

    private static void wrongCalls() {
        Due d = Due.fresh();
        Due.same("no program", d.bench.run(1), -1);
        d.with(BASE + "main A{};");
        for (int n : new int[] {0, -1, 5001, Integer.MAX_VALUE, Integer.MIN_VALUE}) {
            Due.same("run " + n, d.bench.run(n), -1);
        }
        Due.same("no steps", d.bench.count(3), 0);
        Due.same("run 5000", d.bench.run(5000), 0);
        Due.same("run 1", d.bench.run(1), 0);
        Due.same("run 0", d.bench.run(0), -1);
        Due.same("the latest run stays", d.bench.count(3), 1);
        Due.same("steps in all", d.bench.count(2), 2);
    }

    private static void order() {
        // each part is worked out from the left, and a fail ends it
        run("main P[Any,Any]{Box[Any]{A{}}.v^.(C),Box[Any]{C{}}.v.(A)};", 50, 1, 4, 0);
        run("func(x C)m(y Any)Any{return y} main Box[Any]{C{}}.v.(C).m(Box[Any]{A{}}.v^.(C)).(A);", 50, 1, 8, 0);
        run("func(x A)m(y Any)C{return y^.(C)} main A{}.m(A{});", 50, 1, 4, 1);
    }

    private static void stepsOfTypes() {
        // Box[Box[b]] with b = A: 3, ahead of its E
        String up = "func(x Box[b])up()Any{return Box[Box[b]]{x}} main Box[A]{A{}}.up();";
        run(up, 100, 0, 7, 1);
        run(up, 6, 2, 6, 1);
        run(up, 5, 2, 5, 1);
        run(up, 4, 2, 4, 1);
        run(up, 3, 2, 3, 1);
        run(up, 2, 2, 2, 0);
        // a METHOD's TYPES: behind E, ahead of the one, TYPE by TYPE
        String two = "func(x A)two[p Any,q Any](y Any)Any{return y} "
            + "func(x Box[b])m()Any{return A{}.two[b,P[b,Any]](C{})} main Box[Box[A]]{Box[A]{A{}}}.m();";
        // three for the value, one for the call, A and C, then 2 and 4, then the call
        run(two, 100, 0, 13, 2);
        run(two, 12, 2, 12, 1);
        run(two, 11, 2, 11, 1);
        run(two, 7, 2, 7, 1);
        // a TYPE without PARAMS takes none
        run("func(x Box[b])m()Any{return A{}.id[Box[A]](x)} func(x A)id[p Any](y Any)Any{return y} "
            + "main Box[A]{A{}}.m();", 100, 0, 5, 2);
        // ( TYPE ): behind E, ahead of the one
        String cast = "func(x Box[b])m(y Any)Box[b]{return y.(Box[b])} main Box[A]{A{}}.m(Box[A]{A{}});";
        run(cast, 100, 0, 8, 1);
        run(cast, 7, 2, 7, 1);
        run(cast, 6, 2, 6, 1);
        run("func(x Box[b])m(y Any)b{return y^.(b)} main Box[A]{A{}}.m(Box[A]{A{}});", 100, 1, 7, 1);
    }

    private static void spent() {
        String text = "func(x A)m()A{return x} main P[A,A]{A{},A{}.m()}.x;";
        for (int n = 1; n < 5; n++) {
            run(text, n, 2, n, n < 3 ? 0 : 1);
        }
        run(text, 5, 0, 5, 1);
        // where there is no STEP left for it, no ( TYPE ) fails
        run("main Box[Any]{A{}}.v.(C);", 3, 2, 3, 0);
    }

    private static void fails() {
        run("main Box[Any]{A{}}.v^.(C);", 4, 1, 4, 0);
        run("main Box[Any]{A{}}.v .(Any) ^.(C) ;", 9, 1, 5, 0);
        run("type M interface{m()A;} main Box[Any]{A{}}.v^.(M);", 9, 1, 4, 0);
        run("type M interface{m()A;} func(x A)m()A{return x} main Box[Any]{A{}}.v.(M).m();", 9, 0, 5, 1);
        run("main Box[Any]{Box[A]{A{}}}.v^.(Box[Any]);", 9, 1, 5, 0);
        Due d = Due.fresh().with(BASE + "main Box[Any]{A{}}.v.(C);");
        Due.same("nothing was run", d.bench.failed(), -1);
        Due.same("fails", d.bench.run(4), 1);
        Due.same("where", d.bench.failed(), (BASE + "main Box[Any]{A{}}.v").length());
        Due.same("another n", d.bench.run(0), -1);
        Due.same("it stays", d.bench.failed(), (BASE + "main Box[Any]{A{}}.v").length());
        Due.same("spent", d.bench.run(3), 2);
        Due.same("the latest did not fail", d.bench.failed(), -1);
        Due.same("fails", d.bench.run(5), 1);
        d.with(BASE + "main A{};");
        Due.same("another program", d.bench.failed(), -1);
    }

    private static void deep() {
        run("func(x A)m()A{return x.m()} main A{}.m();", 5000, 3, 42, 40);
        run("func(x A)m()A{return x.m()} main A{}.m();", 42, 3, 42, 40);
        run("func(x A)m()A{return x.m()} main A{}.m();", 41, 2, 41, 40);
        // calls that are over are not within one another
        run("func(x A)m()A{return x} main A{}" + ".m()".repeat(20) + ";", 5000, 0, 21, 20);
        // forty calls within one another, no more
        String chain = "type N interface{go()Any;} type S struct{n N;} "
            + "func(x A)go()Any{return x} func(x S)go()Any{return x.n.go()} "
            + "func(x A)s()N{return S{S{S{S{S{S{S{S{S{x}}}}}}}}}} "
            + "func(x S)s()N{return S{S{S{S{S{S{S{S{S{x}}}}}}}}}} type T interface{s()N;} ";
        run(chain + "main S{S{S{A{}.s().(T).s().(T).s().(T).s()}}}.go();", 5000, 0, 126, 44);
        run(chain + "main S{S{S{S{A{}.s().(T).s().(T).s().(T).s()}}}}.go();", 5000, 3, 129, 44);
        Due d = Due.fresh().with(BASE + chain + "main P[Any,Any]{C{},S{S{S{A{}.s().(T).s().(T).s().(T).s()}}}.go()};");
        Due.same("run", d.bench.run(5000), 0);
        Due.same("value", d.printed(1), "P[Any,Any]{C{},A{}}");
        // a METHOD's TYPES and its STEP are ahead of DEEP
        run("func(x A)m[p Any]()A{return x.m[p]()} main A{}.m[A]();", 5000, 3, 82, 40);
        run("func(x A)m[p Any]()A{return x.m[p]()} main A{}.m[A]();", 81, 2, 81, 40);
    }

    private static final String GROW = "func(x Box[b])grow()Any{return Box[P[b,b]]{P[b,b]{x.v,x.v}}.grow()} ";

    private static void great() {
        // Box[A]: then Box[P[..]] of 4, 8, 16, 32, 64 WORDS
        run(GROW + "main Box[A]{A{}}.grow();", 5000, 4, 3 + (4 + 3 + 8 + 7 + 16 + 15 + 32 + 31) + 4 * 5, 5);
        String m = "func(x A)m[p Any]()Any{return x.m[P[p,p]]()} main A{}.m[A]();";
        run(m, 5000, 4, 2 + 4 + 8 + 16 + 32, 5);
        run("func(x Box[b])c()Any{return x.d().(P[P[b,b],P[b,b]])} func(x Box[b])d()Any{return x} "
            + "main Box[P[P[P[A,A],P[A,A]],P[P[A,A],P[A,A]]]]{" + value(3) + "}.c();", 5000, 4, 18, 2);
    }

    /** A value of pairs in pairs, 2^depth A in all. */
    private static String value(int depth) {
        String type = "A";
        String value = "A{}";
        for (int i = 0; i < depth; i++) {
            type = "P[" + type + "," + type + "]";
            value = type + "{" + value + "," + value + "}";
        }
        return value;
    }

    private static void greatAheadOfSpent() {
        // 48 WORDS and on: 60 are not too many, 61 are
        String p15 = "P[P[P[A,A],P[A,A]],P[P[A,A],P[A,A]]]";
        String p47 = "P[" + p15 + ",P[" + p15 + "," + p15 + "]]";
        run("func(x A)q[p Any]()Any{return x.q[Box[p]]()} main A{}.q[" + p47 + "]();", 5000, 4,
            2 + 13 * (48 + 60) / 2 + 13, 14);
        String m = "func(x A)m[p Any]()Any{return x.m[P[p,p]]()} main A{}.m[A]();";
        run(m, 62, 4, 62, 5);
        run(m, 61, 2, 61, 4);
        run(m, 60, 2, 60, 4);
        run(m, 31, 2, 31, 4);
        // the second TYPE is too great, the first one takes its STEPS
        run("func(x A)m[p Any,q Any]()Any{return x.m[Box[p],P[q,q]]()} main A{}.m[A,A]();",
            5000, 4, 2 + (2 + 3 + 1) + (3 + 7 + 1) + (4 + 15 + 1) + (5 + 31 + 1) + 6, 5);
    }

    private static void greatInAsking() {
        String base = "type Two[a Any] interface{two()P[a,a];} type Q[a Any] struct{} "
            + "func(x Q[a])two()P[a,a]{return x.v().(P[a,a])} func(x Q[a])v()Any{return x} ";
        String p15 = "P[P[P[A,A],P[A,A]],P[P[A,A],P[A,A]]]";
        String p31 = "P[" + p15 + "," + p15 + "]";
        run(base + "main Q[" + p15 + "]{}.v()^.(Two[A]);", 5000, 1, 3, 1);
        run(base + "main Q[" + p31 + "]{}.v().(Two[A]);", 5000, 4, 2, 1);
        run(base + "main Q[" + p31 + "]{}.v().(Two[A]);", 2, 4, 2, 1);
        run(base + "main Q[A]{}.v().(Two[" + p31 + "]);", 5000, 4, 2, 1);
        // a struct is asked by its WORDS alone
        run(base + "main Q[" + p31 + "]{}.v().(Q[" + p31 + "]);", 5000, 0, 3, 1);
    }

    private static void stepsInAll() {
        String loop = "func(x A)m()A{return x.n().n().n().n().n().n().n().n().n().n()} "
            + "func(x A)n()A{return x.k().k().k().k().k().k().k().k().k().k()} "
            + "func(x A)k()A{return x.j().j().j().j().j().j().j().j().j().j()} "
            + "func(x A)j()A{return x.i().i().i().i().i().i().i().i().i().i()} func(x A)i()A{return x} ";
        Due d = Due.fresh().with(BASE + loop + "main A{}.m();");
        for (int i = 0; i < 11; i++) {
            Due.same("run " + i, d.bench.run(5000), 2);
            Due.same("steps " + i, d.bench.count(3), 5000);
        }
        Due.same("run 4,990", d.bench.run(4990), 2);
        Due.same("in all", d.bench.count(2), 59990);
        d.with(BASE + "main P[A,A]{A{},A{}};");
        for (int i = 0; i < 3; i++) {
            Due.same("run with enough", d.bench.run(5), 0);
        }
        Due.same("run with one left", d.bench.run(5), 2);
        Due.same("one taken", d.bench.count(3), 1);
        Due.same("in all", d.bench.count(2), 60000);
        Due.same("run with none left", d.bench.run(5), 2);
        Due.same("none taken", d.bench.count(3), 0);
        Due.same("no value", d.bench.print(1), -1);
        Due.same("in all", d.bench.count(2), 60000);
    }

    private static void longValues() {
        // 20 calls of 20 calls each put one value into another
        String text = "type N interface{s()N;ss()N;} type Z struct{} type S struct{n N;} "
            + "func(x Z)s()N{return S{x}} func(x S)s()N{return S{x}} "
            + "func(x Z)ss()N{return x" + ".s()".repeat(20) + "} "
            + "func(x S)ss()N{return x" + ".s()".repeat(20) + "} "
            + "main Z{}" + ".ss()".repeat(20) + ";";
        Due d = Due.fresh().with(BASE + text);
        Due.same("run", d.bench.run(5000), 0);
        Due.same("steps", d.bench.count(3), 1 + 20 + 2 * 400);
        Due.same("calls", d.bench.calls(), 420);
        Due.same("value", d.printed(1), "S{".repeat(400) + "Z{}" + "}".repeat(400));
    }
}
