/** Terms 3, a RUN and its STEPS, and promises 5, 6, 7: one STEP more, one less, and what comes ahead of what. */
public final class StepsEdgeTest {
    private static final String BASE = Texts.QP + "type C struct{} type Box[a Any] struct{v a;} type H struct{h Any;} "
        + "type T[a Any,b Any] struct{l a;r b;} ";
    private static final String X29 = Texts.sized(29);
    private static final String X30 = Texts.sized(30);
    /** i() takes 1 STEP, j() 21, k() 421, r() 361. */
    private static final String LADDER = BASE + "func(x A)i()A{return x} func(x A)j()A{return x" + Texts.chain("i", 20)
        + "} func(x A)k()A{return x" + Texts.chain("j", 20) + "} func(x A)r()A{return x" + Texts.chain("j", 17, "i", 3)
        + "} ";
    private static final String TAKES_5000 = LADDER + "main A{}" + Texts.chain("k", 11, "r", 1, "i", 7) + ";";
    private static final String TAKES_5001 = LADDER + "main A{}" + Texts.chain("k", 11, "r", 1, "i", 8) + ";";
    private static final String TAKES_1 = BASE + "main A{};";

    public static void main(String[] args) {
        numbersOfSteps();
        noProgram();
        eachTakesOne();
        typesTakeTheirWords();
        typeByType();
        atMostAsTold();
        fiveThousand();
        sixtyThousand();
        oneLeftInAll();
        allThatAreLeft();
        stepsInAllStay();
        theFortyFirst();
        withinOneAnother();
        stepAheadOfDeep();
        greatAheadOfSpent();
        greatAheadOfItsParts();
        castInItsOrder();
        callsMade();
        whereItFailed();
        whatIsWorkedOut();
        theFortiethCall();
        manyValues();
        manyRuns();
        Due.end();
    }

    private static void run(String text, int n, int outcome, int steps, int calls) {
        Due d = Due.fresh().with(BASE + text);
        String what = text + " run(" + n + ")";
        Due.same(what, d.bench.run(n), outcome);
        Due.same(what + " steps", d.bench.count(3), steps);
        Due.same(what + " calls", d.bench.calls(), calls);
        Due.same(what + " has a value", d.bench.print(1) < 0 ? 1 : 0, outcome == 0 ? 0 : 1);
    }

    /** It takes that many STEPS; with one less it is SPENT, with none more needed it is not. */
    private static void takes(String text, int steps, int calls) {
        run(text, steps, 0, steps, calls);
        run(text, steps + 1, 0, steps, calls);
        run(text, 5000, 0, steps, calls);
        Due d = Due.fresh().with(BASE + text);
        for (int n = 1; n < steps; n++) {
            Due.same(text + " run(" + n + ")", d.bench.run(n), 2);
            Due.same(text + " run(" + n + ") steps", d.bench.count(3), n);
        }
    }

    private static void numbersOfSteps() {
        Due.says("A RUN of main's E with at most n STEPS (1 .. 5000) .. NONE: .. another n");
        Due d = Due.fresh().with(TAKES_1);
        for (int n : new int[] {0, -1, -5000, 5001, 65536, Integer.MIN_VALUE, Integer.MAX_VALUE}) {
            Due.same("run " + n, d.bench.run(n), -1);
        }
        Due.same("none was a run", d.bench.count(2), 0);
        Due.same("none has a value", d.bench.print(1), -1);
        Due.same("run 1", d.bench.run(1), 0);
        Due.same("run 4999", d.bench.run(4999), 0);
        Due.same("run 5000", d.bench.run(5000), 0);
        Due.same("steps in all", d.bench.count(2), 3);
        Due.same("a refused one", d.bench.run(5001), -1);
        Due.same("leaves the latest", d.bench.count(3), 1);
        Due.same("leaves its value", d.printed(1), "A{}");
    }

    private static void noProgram() {
        Due.says("NONE: no program");
        Due d = Due.fresh();
        Due.same("run 1", d.bench.run(1), -1);
        Due.same("run 5000", d.bench.run(5000), -1);
        Due.same("a fault", d.program("x"), 1);
        Due.same("run 1", d.bench.run(1), -1);
        Due.same("failed", d.bench.failed(), -1);
        Due.same("calls", d.bench.calls(), 0);
        Due.same("steps", d.bench.count(3), 0);
    }

    private static void eachTakesOne() {
        Due.says("each { }, FIELD, METHOD, ( TYPE ) as it is done, behind its parts, takes one");
        takes("main A{};", 1, 0);
        takes("main Box[A]{A{}};", 2, 0);
        takes("main T[A,C]{A{},C{}};", 3, 0);
        takes("main Box[A]{A{}}.v;", 3, 0);
        takes("main H{A{}}.h.(A);", 4, 0);
        takes("func(x A)m()A{return x} main A{}.m();", 2, 1);
        takes("func(x A)m(y A,z A)A{return z} main A{}.m(A{},A{});", 4, 1);
        takes("func(x A)m()C{return C{}} main A{}.m();", 3, 1);
        takes("func(x A)m()H{return H{x}} main A{}.m().h.(A).m().h;", 8, 2);
        // as it is done: what is not done takes none
        run("func(x A)m()A{return A{}.m()} main A{};", 5, 0, 1, 0);
    }

    private static void typesTakeTheirWords() {
        Due.says("a TYPE in it that has PARAMS takes as many as it has WORDS when types are put");
        // of a { } ahead of its E: 1 + WORDS, then its E
        takes("func(x A)m[p Any]()Any{return Box[p]{C{}.t[p]()}} func(x C)t[p Any]()p{return H{C{}}.h.(p)} "
            + "main A{}.m[C]();", 2 + 2 + 1 + 1 + 1 + 3 + 1 + 1 + 1, 2);
        takes("func(x Box[b])m()Any{return Box[Box[b]]{x}} main Box[A]{A{}}.m();", 3 + 3 + 1, 1);
        takes("func(x Box[b])m()Any{return Box[Box[b]]{x}} main Box[Box[A]]{Box[A]{A{}}}.m();", 4 + 4 + 1, 1);
        takes("func(x A)m[p Any]()Any{return P[p,p]{}} main A{}.m[" + Texts.sized(7) + "]();", 2 + 15 + 1, 1);
        takes("func(x A)m[p Any]()Any{return P[p,A]{}} main A{}.m[A]();", 2 + 3 + 1, 1);
        // of a METHOD, a ( TYPE ) behind E
        takes("func(x A)m[p Any]()A{return x.n[p,Q[p]](x)} func(x A)n[p Any,q Any](y A)A{return y} main A{}.m[C]();",
            2 + 1 + 2 + 1, 2);
        takes("func(x A)m[p Any](y Any)p{return y.(p)} main A{}.m[A](A{});", 3 + 1 + 1, 1);
        // one without PARAMS takes none, nor does a FIELD's, a VAR's, a METHOD's own
        takes("func(x A)m[p Any](y Any)Any{return y.(Q[A])} main A{}.m[A](Q[A]{});", 3 + 1, 1);
        takes("func(x A)m[p Any]()Any{return Q[A]{}} main A{}.m[A]();", 2 + 1, 1);
        takes("func(x A)m[p Any]()Any{return x.n[Q[A]]()} func(x A)n[p Any]()Any{return x} main A{}.m[A]();", 3, 2);
        takes("func(x Box[b])m(y b)Box[b]{return x} main Box[A]{A{}}.m(A{}).v;", 5, 1);
        takes("main P[A,A]{};", 1, 0);
        Due.says("(of a { } ahead of its E; of a METHOD, a ( TYPE ) behind E, ahead of the one)");
        // where it is SPENT tells what came ahead: a call within its E was made or was not
        String open = "func(x A)e()A{return x} func(x A)m[p Any]()Any{return Box[p]{x.n[p](x.e())}} "
            + "func(x A)n[p Any](y Any)p{return y.(p)} main A{}.m[A]();";
        run(open, 3, 2, 3, 1);
        run(open, 4, 2, 4, 1);
        run(open, 5, 2, 5, 2);
        run(open, 6, 2, 6, 2);
        run(open, 7, 2, 7, 3);
        run(open, 8, 2, 8, 3);
        run(open, 9, 2, 9, 3);
        run(open, 10, 0, 10, 3);
    }

    private static void typeByType() {
        Due.says("TYPE by TYPE, GREAT ahead of SPENT");
        // Q[p] takes 2, P[p,p] 3, then the one
        String two = "func(x A)n[p Any,q Any]()A{return x} func(x A)m[p Any]()A{return x.n[Q[p],P[p,p]]()} main A{}.m[A]();";
        takes(two, 2 + 2 + 3 + 1, 2);
        // the first is SPENT ahead of the second's GREAT, which is ahead of its own SPENT
        String second = "func(x A)n[p Any,q Any]()A{return x} func(x A)m[p Any,q Any]()A{return x.n[Q[p],P[q,q]]()} "
            + "main A{}.m[A," + X30 + "]();";
        run(second, 2, 2, 2, 1);
        run(second, 3, 2, 3, 1);
        run(second, 4, 4, 4, 1);
        run(second, 5, 4, 4, 1);
        String first = "func(x A)n[p Any,q Any]()A{return x} func(x A)m[p Any,q Any]()A{return x.n[P[q,q],Q[p]]()} "
            + "main A{}.m[A," + X30 + "]();";
        run(first, 2, 4, 2, 1);
        run(first, 5000, 4, 2, 1);
    }

    private static void atMostAsTold() {
        Due.says("A run has at most as many as told .. one more: SPENT");
        run("main T[A,C]{A{},C{}}.r;", 4, 0, 4, 0);
        run("main T[A,C]{A{},C{}}.r;", 3, 2, 3, 0);
        run("func(x A)m()A{return x.m()} main A{}.m();", 1, 2, 1, 0);
        // each run anew
        Due d = Due.fresh().with(BASE + "main T[A,C]{A{},C{}}.r;");
        for (int i = 0; i < 5; i++) {
            Due.same("run 3", d.bench.run(3), 2);
            Due.same("run 4", d.bench.run(4), 0);
        }
        Due.same("in all", d.bench.count(2), 35);
    }

    private static void fiveThousand() {
        Due.says("at most n STEPS (1 .. 5000)");
        Due d = Due.fresh().with(TAKES_5000);
        Due.same("run 5000", d.bench.run(5000), 0);
        Due.same("steps", d.bench.count(3), 5000);
        Due.same("value", d.printed(1), "A{}");
        Due.same("run 4999", d.bench.run(4999), 2);
        Due.same("steps", d.bench.count(3), 4999);
        Due e = Due.fresh().with(TAKES_5001);
        Due.same("run 5000", e.bench.run(5000), 2);
        Due.same("steps", e.bench.count(3), 5000);
        Due.same("no value", e.bench.print(1), -1);
    }

    private static void sixtyThousand() {
        Due.says("60,000 in all: one more: SPENT");
        Due d = Due.fresh().with(TAKES_5000);
        for (int i = 1; i <= 12; i++) {
            Due.same("run " + i, d.bench.run(5000), 0);
            Due.same("in all " + i, d.bench.count(2), 5000 * i);
        }
        Due.same("the 12th has its value", d.printed(1), "A{}");
        for (int n : new int[] {5000, 1}) {
            Due.same("none left", d.bench.run(n), 2);
            Due.same("none taken", d.bench.count(3), 0);
            Due.same("no calls", d.bench.calls(), 0);
            Due.same("no value", d.bench.print(1), -1);
            Due.same("in all", d.bench.count(2), 60000);
        }
        Due.same("another n is refused still", d.bench.run(0), -1);
        Due.same("all else goes on", d.program(TAKES_1), 0);
        Due.same("none left for it", d.bench.run(1), 2);
        Due.same("instances", d.bench.instances(), 0);
        // with 5,001 needed the twelfth is SPENT, and takes all
        Due e = Due.fresh().with(TAKES_5000);
        for (int i = 0; i < 11; i++) {
            Due.same("run", e.bench.run(5000), 0);
        }
        e.with(TAKES_5001);
        Due.same("one more", e.bench.run(5000), 2);
        Due.same("in all", e.bench.count(2), 60000);
    }

    private static Due used(int steps) {
        Due d = Due.fresh().with(TAKES_5001);
        for (int left = steps; left > 0; left -= 5000) {
            Due.same("SPENT", d.bench.run(Math.min(left, 5000)), 2);
        }
        Due.same("used", d.bench.count(2), steps);
        return d;
    }

    private static void oneLeftInAll() {
        Due.says("60,000 in all");
        Due d = used(59999).with(TAKES_1);
        Due.same("the last one", d.bench.run(5000), 0);
        Due.same("taken", d.bench.count(3), 1);
        Due.same("in all", d.bench.count(2), 60000);
        Due.same("value", d.printed(1), "A{}");
        Due.same("one more", d.bench.run(5000), 2);
        Due.same("none taken", d.bench.count(3), 0);
        Due e = used(59999).with(BASE + "main Box[A]{A{}};");
        Due.same("it needs two", e.bench.run(5000), 2);
        Due.same("taken", e.bench.count(3), 1);
        Due f = used(59998).with(BASE + "main Box[A]{A{}};");
        Due.same("two are left", f.bench.run(5000), 0);
        Due.same("taken", f.bench.count(3), 2);
        // what is told counts where it is less
        Due g = used(59990).with(BASE + "main Box[A]{A{}};");
        Due.same("one is told", g.bench.run(1), 2);
        Due.same("in all", g.bench.count(2), 59991);
    }

    private static void allThatAreLeft() {
        Due.says("(where fewer are left they are all taken)");
        String fifteen = "func(x A)m[p Any]()Any{return P[p,p]{}} main A{}.m[" + Texts.sized(7) + "]();";
        for (int n = 2; n < 17; n++) {
            run(fifteen, n, 2, n, 1);
        }
        run(fifteen, 17, 2, 17, 1);
        run(fifteen, 18, 0, 18, 1);
        // of those in all, too
        Due d = used(59990).with(BASE + fifteen);
        Due.same("ten are left", d.bench.run(5000), 2);
        Due.same("all are taken", d.bench.count(3), 10);
        Due.same("in all", d.bench.count(2), 60000);
        Due e = used(59982).with(BASE + fifteen);
        Due.same("eighteen are left", e.bench.run(5000), 0);
        Due.same("in all", e.bench.count(2), 60000);
        // of a METHOD and a ( TYPE )
        run("func(x A)n[p Any]()A{return x} func(x A)m[p Any]()A{return x.n[P[p,p]]()} main A{}.m[" + Texts.sized(7)
            + "]();", 16, 2, 16, 1);
        run("func(x A)m[p Any](y Any)Any{return y.(P[p,p])} main A{}.m[" + Texts.sized(7) + "](A{});", 17, 2, 17, 1);
    }

    private static void stepsInAllStay() {
        Due.says("STEPS in all stay");
        Due d = Due.fresh().with(BASE + "main Box[A]{A{}};");
        d.bench.run(5);
        d.with(TAKES_1);
        Due.same("in all", d.bench.count(2), 2);
        Due.same("of the latest run there is none", d.bench.count(3), 0);
        d.bench.run(5);
        Due.same("a fault", d.program("main"), 1 + 16 * 4);
        Due.same("in all", d.bench.count(2), 3);
        Due.same("of the latest run", d.bench.count(3), 1);
    }

    /** A chain of structs around A{}, each calling go() of the next one: as many calls within one another and one more. */
    private static String within(int structs) {
        StringBuilder text = new StringBuilder("type N interface{go()Any;up()N;} type S struct{n N;} "
            + "func(x A)go()Any{return C{}} func(x S)go()Any{return x.n.go()} "
            + "func(x A)up()N{return S{x}} func(x S)up()N{return S{x}} "
            + "func(x A)up10()N{return x.up().up().up().up().up().up().up().up().up().up()} "
            + "func(x S)up10()N{return x.up().up().up().up().up().up().up().up().up().up()} "
            + "type U interface{up10()N;} main A{}");
        for (int i = 0; i < structs / 10; i++) {
            text.append(i == 0 ? "" : ".(U)").append(".up10()");
        }
        return text + ".up()".repeat(structs % 10) + ".go();";
    }

    private static void theFortyFirst() {
        Due.says("Of calls within one another the 41st: DEEP");
        for (int structs = 35; structs < 44; structs++) {
            Due d = Due.fresh().with(BASE + within(structs));
            Due.same("go() of " + structs + " and one more", d.bench.run(5000), structs < 40 ? 0 : 3);
            int ahead = structs / 10 + structs;
            Due.same("calls", d.bench.calls(), ahead + Math.min(structs + 1, 40));
            Due.same("has a value", d.bench.print(1) >= 0 ? 1 : 0, structs < 40 ? 1 : 0);
        }
        Due d = Due.fresh().with(BASE + within(39));
        Due.same("forty", d.bench.run(5000), 0);
        Due.same("value", d.printed(1), "C{}");
    }

    private static void withinOneAnother() {
        Due.says("calls within one another");
        // calls that are over, and those in ( ), are not within the next one
        run("func(x A)m()A{return x" + ".i()".repeat(20) + "} func(x A)i()A{return x} main A{}" + ".m()".repeat(20) + ";",
            5000, 0, 1 + 20 * 21, 420);
        run("func(x A)i(y A)A{return y} func(x A)m(y A)A{return " + Texts.nest(9, "x.i(", "y", ")") + "} main "
            + Texts.nest(8, "A{}.m(", "A{}", ")") + ";", 5000, 0, 9 + 8 * 10, 80);
        // the fortieth may have none within it
        run("func(x A)m()A{return x.m()} main A{}.m();", 5000, 3, 42, 40);
        run("func(x A)m()A{return x.i(x.i(x.m()))} func(x A)i(y A)A{return y} main A{}.m();", 5000, 3, 42, 40);
        run("func(x A)m()A{return x.i(x).m()} func(x A)i(y A)A{return y} main A{}.m();", 5000, 3, 81, 79);
    }

    private static void stepAheadOfDeep() {
        Due.says("A call's STEP is ahead of DEEP");
        String loop = "func(x A)m()A{return x.m()} main A{}.m();";
        run(loop, 43, 3, 42, 40);
        run(loop, 42, 3, 42, 40);
        run(loop, 41, 2, 41, 40);
        run(loop, 40, 2, 40, 39);
        // so are its TYPES: SPENT and GREAT
        String typed = "func(x A)m[p Any]()A{return x.m[p]()} main A{}.m[A]();";
        run(typed, 82, 3, 82, 40);
        run(typed, 81, 2, 81, 40);
        run(typed, 80, 2, 80, 40);
        run(typed, 79, 2, 79, 39);
        // Q[p] of 20, 21, .. WORDS: the 41st call would be told one of 60, of 61
        String grow = "func(x A)m[p Any]()A{return x.m[Q[p]]()} main A{}.m[";
        int sum = 0;
        for (int words = 21; words <= 60; words++) {
            sum += words;
        }
        run(grow + Texts.sized(20) + "]();", 5000, 3, 2 + sum + 40, 40);
        run(grow + Texts.sized(21) + "]();", 5000, 4, 2 + sum - 21 + 39, 40);
    }

    private static void greatAheadOfSpent() {
        Due.says("GREAT ahead of SPENT");
        run("func(x A)m[p Any]()Any{return P[p,p]{}} main A{}.m[" + X30 + "]();", 2, 4, 2, 1);
        run("func(x A)m[p Any]()Any{return Q[P[p,p]]{}} main A{}.m[" + X29 + "]();", 2, 2, 2, 1);
        run("func(x A)m[p Any]()Any{return x.n[P[p,p]]()} func(x A)n[p Any]()Any{return x} main A{}.m[" + X30 + "]();",
            2, 4, 2, 1);
        run("func(x A)m[p Any](y Any)Any{return y.(P[p,p])} main A{}.m[" + X30 + "](A{});", 3, 4, 3, 1);
    }

    private static void greatAheadOfItsParts() {
        Due.says("GREAT (of a { } ahead of its E; of a METHOD's TYPES and of ( TYPE ) as it is done, ahead of its STEP)");
        // the E within fails: ahead of it, or not
        String f = "type F[a Any] struct{f Any;} func(x A)no(y Any)Any{return y.(C)} func(x A)n[p Any](y Any)Any{return y} ";
        run(f + "func(x A)m[p Any]()Any{return F[P[p,p]]{x.no(x)}} main A{}.m[" + X30 + "]();", 5000, 4, 2, 1);
        run(f + "func(x A)m[p Any]()Any{return F[P[p,p]]{x.no(x)}} main A{}.m[A]();", 5000, 1, 2 + 4 + 2, 2);
        run(f + "func(x A)m[p Any]()Any{return x.n[P[p,p]](x.no(x))} main A{}.m[" + X30 + "]();", 5000, 1, 2 + 2, 2);
        run(f + "func(x A)m[p Any]()Any{return x.n[P[p,p]](x.n[A](x))} main A{}.m[" + X30 + "]();", 5000, 4, 2 + 1, 2);
        run(f + "func(x A)m[p Any]()Any{return x.no(x).(P[p,p])} main A{}.m[" + X30 + "]();", 5000, 1, 2 + 2, 2);
        run(f + "func(x A)m[p Any]()Any{return x.n[A](x).(P[p,p])} main A{}.m[" + X30 + "]();", 5000, 4, 2 + 1, 2);
    }

    private static void castInItsOrder() {
        Due.says("so, too, in asking whether the value IMPLEMENTS");
        // H[p] with p of 30 WORDS takes 31; D has h(), and is asked; then comes the one
        String cast = "type I[a Any] interface{h()P[a,a];} func(x C)h()A{return A{}} "
            + "func(x A)m[p Any](y Any)Any{return y.(I[p])} main A{}.m[";
        run(cast + X30 + "](C{});", 33, 2, 33, 1);
        run(cast + X30 + "](C{});", 34, 4, 34, 1);
        run(cast + X30 + "](C{});", 35, 4, 34, 1);
        run(cast + X29 + "](C{});", 32, 2, 32, 1);
        run(cast + X29 + "](C{});", 33, 2, 33, 1);
        run(cast + X29 + "](C{});", 34, 1, 34, 1);
        // A has no h(): nothing comes to be
        run(cast + X30 + "](A{});", 34, 2, 34, 1);
        run(cast + X30 + "](A{});", 35, 1, 35, 1);
    }

    private static void callsMade() {
        Due.says("How many calls of METHODS the latest run made; a call that is DEEP, SPENT, GREAT isn't one");
        Due d = Due.fresh().with(BASE + "func(x A)m()A{return x} main A{}.m().m().m();");
        Due.same("nothing run", d.bench.calls(), 0);
        for (int n = 1; n <= 5; n++) {
            d.bench.run(n);
            Due.same("run " + n, d.bench.calls(), Math.min(n - 1, 3));
        }
        Due.same("refused", d.bench.run(0), -1);
        Due.same("as ahead of it", d.bench.calls(), 3);
        d.program("x");
        Due.same("a fault", d.bench.calls(), 3);
        d.with(TAKES_1);
        Due.same("another program", d.bench.calls(), 0);
        // FIELDS, { } and ( TYPE ) are none; a call that fails within is one
        run("main H{Box[A]{A{}}.v}.h.(A);", 50, 0, 6, 0);
        run("func(x A)m(y Any)C{return y.(C)} main A{}.m(A{});", 50, 1, 4, 1);
        Due.same("the most", callsOf(TAKES_5000), 4999);
    }

    private static int callsOf(String text) {
        Due d = Due.fresh().with(text);
        d.bench.run(5000);
        return d.bench.calls();
    }

    private static void whereItFailed() {
        Due.says("Where the latest run FAILED: the place of the point in the text; NONE if it didn't");
        String text = "\n" + BASE + "func(x A)m(y Any)C{return y . (C)} main A{} .m(A{});";
        Due d = Due.fresh().with(text);
        Due.same("nothing run", d.bench.failed(), -1);
        Due.same("fails", d.bench.run(4), 1);
        Due.same("where", d.bench.failed(), text.indexOf(". (C)"));
        Due.same("spent", d.bench.run(3), 2);
        Due.same("it didn't", d.bench.failed(), -1);
        Due.same("fails", d.bench.run(4), 1);
        Due.same("refused", d.bench.run(5001), -1);
        Due.same("as ahead of it", d.bench.failed(), text.indexOf(". (C)"));
        Due.same("a fault", d.program(""), 1);
        Due.same("as ahead of it", d.bench.failed(), text.indexOf(". (C)"));
        d.with(TAKES_1);
        Due.same("another program", d.bench.failed(), -1);
        Due.same("a value", d.bench.run(1), 0);
        Due.same("it didn't", d.bench.failed(), -1);
        Due e = Due.fresh().with(BASE + "func(x A)m()A{return x.m()} main A{}.m();");
        Due.same("deep", e.bench.run(99), 3);
        Due.same("it didn't", e.bench.failed(), -1);
        // near the end of a full tape
        String tail = BASE + "main H{A{}}.h";
        Due f = Due.fresh().with(" ".repeat(3995 - tail.length()) + tail + ".(C);");
        Due.same("fails", f.bench.run(9), 1);
        Due.same("where", f.bench.failed(), 3995);
    }

    private static String valueOf(String text) {
        Due d = Due.fresh().with(BASE + text);
        Due.same(text, d.bench.run(5000), 0);
        return d.printed(1);
    }

    private static void whatIsWorkedOut() {
        Due.says("A RUN works E out from the left: a value is a struct's");
        String s = "type S struct{" + Texts.list(6, "f# Any;", "") + "} main S{A{},C{},Q[A]{},Q[C]{},P[A,C]{},H{A{}}}";
        String[] parts = {"A{}", "C{}", "Q[A]{}", "Q[C]{}", "P[A,C]{}", "H{A{}}"};
        Due.same("all", valueOf(s + ";"), "S{" + String.join(",", parts) + "}");
        for (int i = 0; i < 6; i++) {
            Due.same(". FIELD: that value", valueOf(s + ".f" + i + ";"), parts[i]);
        }
        for (int i = 0; i < 6; i++) {
            String func = "func(x A)m(" + Texts.list(6, "y# Any", ",") + ")Any{return y" + i + "} ";
            Due.same("VARS these", valueOf(func + "main A{}.m(" + String.join(",", parts) + ");"), parts[i]);
        }
        Due.same("the first VAR", valueOf("func(x Box[p])m(y Any)Any{return x} main Box[C]{C{}}.m(A{});"), "Box[C]{C{}}");
        // its func is that of the value's struct
        String go = "type I interface{go()Any;} func(x A)go()Any{return Q[A]{}} func(x C)go()Any{return Q[C]{}} "
            + "func(x Box[p])go()Any{return Q[p]{}} type HI struct{i I;} ";
        Due.same("A's", valueOf(go + "main HI{A{}}.i.go();"), "Q[A]{}");
        Due.same("C's", valueOf(go + "main HI{C{}}.i.go();"), "Q[C]{}");
        Due.same("Box's", valueOf(go + "main HI{Box[H]{H{A{}}}}.i.go();"), "Q[H]{}");
        Due.says("PARAMS the value's TYPES and those told");
        Due.same("in their places", valueOf("func(x T[p,q])m[r Any,s Any]()Any{return T[P[p,q],P[r,s]]{P[p,q]{},P[r,s]{}}} "
            + "main T[A,C]{A{},C{}}.m[H,Any]();"), "T[P[A,C],P[H,Any]]{P[A,C]{},P[H,Any]{}}");
        Due.says(". ( TYPE ): the value itself, if its TYPE IMPLEMENTS that; else the run FAILS at that point");
        Due.same("itself", valueOf("main H{Box[A]{A{}}}.h.(Any).(Box[A]);"), "Box[A]{A{}}");
        run("main H{Box[A]{A{}}}.h.(Box[C]);", 50, 1, 5, 0);
    }

    private static void theFortiethCall() {
        Due.says("PARAMS the value's TYPES and those told");
        // in each of forty calls within one another they are the call's own, and are so still behind the next one
        String up13 = "{return x" + ".up()".repeat(13) + "} ";
        String got = valueOf("type N interface{go[p Any]()Any;up()N;} type S struct{n N;} type U interface{up13()N;} "
            + "func(x A)go[p Any]()Any{return Q[p]{}} "
            + "func(x S)go[p Any]()Any{return T[Any,Any]{x.n.go[p](),Q[p]{}}} "
            + "func(x A)up()N{return S{x}} func(x S)up()N{return S{x}} func(x A)up13()N" + up13 + "func(x S)up13()N" + up13
            + "main A{}.up13().(U).up13().(U).up13().go[C]();");
        Due.same("of each its own", got, Texts.nest(39, "T[Any,Any]{", "Q[C]{}", ",Q[C]{}}"));
    }

    private static void manyValues() {
        Due.says("A RUN of main's E with at most n STEPS (1 .. 5000)");
        // nearly each STEP makes a value of six
        String six = "S{y,y,y,y,y,y}";
        String mid = "S{" + Texts.list(6, six, ",") + "}";
        String big = "S{" + Texts.list(6, mid, ",") + "}";
        String text = "type S struct{" + Texts.list(6, "f# Any;", "") + "} func(x A)big(y Any)Any{return " + big + "} "
            + "func(x A)m()A{return x.k(x.big(C{}))} func(x A)k(y Any)A{return x} "
            + "func(x A)ten()A{return x" + Texts.chain("m", 10) + "} main A{}" + Texts.chain("ten", 10) + ".big(C{}).(S).f5;";
        Due d = Due.fresh().with(BASE + text);
        Due.same("run", d.bench.run(5000), 0);
        Due.same("steps", d.bench.count(3), 1 + 10 + 100 * (1 + 1 + 1 + 43 + 1) + 1 + 1 + 43 + 2);
        Due.same("value", d.printed(1), mid.replace("y", "C{}"));
    }

    private static void manyRuns() {
        Due.says("(a run leaves nothing in the way of the next one)");
        Due d = Due.fresh().with(BASE + "func(x A)m(y A,z A)A{return T[A,A]{y,z.m(y,x)}.l} main A{}.m(A{},A{});");
        for (int i = 0; i < 300; i++) {
            Due.same("deep", d.bench.run(200), 3);
            Due.same("spent", d.bench.run(20), 2);
        }
        d.with(BASE + "func(x T[p,q])m(y q)Any{return T[q,p]{y,x.l}} main T[A,C]{A{},C{}}.m(C{});");
        Due.same("run", d.bench.run(20), 0);
        Due.same("value", d.printed(1), "T[C,A]{C{},A{}}");
    }
}
