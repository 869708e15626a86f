import java.util.ArrayList;
import java.util.List;
import java.util.Random;

/** One object answers for its latest program just as a new object would, whatever it did ahead. */
public final class ReuseTest {
    private static final String BASE = "type Any interface{} type A struct{} type C struct{} ";
    private static final String[] PROGRAMS = {
        "type Box[a Any] struct{v a;} type Any interface{} type A struct{} "
            + "func(x Box[b])up()Any{return Box[Box[b]]{x}} main Box[A]{A{}}.up();",
        "type Z struct{} main Z{};",
        BASE + "type Pair[a Any,b Any] struct{x a;y b;} func(p Pair[a,b])swap()Pair[b,a]{return Pair[b,a]{p.y,p.x}} "
            + "main Pair[A,C]{A{},C{}}.swap();",
        BASE + "type N interface{go()Any;} type S struct{n N;} func(x A)go()Any{return C{}} "
            + "func(x S)go()Any{return x.n.go()} main S{S{S{A{}}}}.go();",
        BASE + "type B[a Any] struct{v a;} func(x B[a])m[p Any]()Any{return x.m[B[p]]()} main B[A]{A{}}.m[C]();",
        BASE + "type H struct{h Any;} main H{A{}}.h.(C);",
        BASE + "func(x A)k[p Any,q Any](y p,z q)q{return z} func(x C)k()A{return A{}} main A{}.k[C,A](C{},C{}.k());",
        BASE + "type P[a Any,b Any] struct{} func(x P[a,b])g()Any{return P[P[a,b],P[a,b]]{}.g()} main P[A,A]{}.g();",
        BASE + "func(x A)b[c Any](y c)c{return zz} main A{};",
        BASE + "type D[b Any] struct{f E;} main A{};",
        BASE + "type A struct{} main A{};",
        BASE + "main A{}",
        BASE + "type M interface{m()A;} type K[k M] struct{} func(x K[a])n(y K[C])A{return A{}} main A{};",
    };
    private static final String[] ASKED = {"A;Any", "Box[A];Any", "b;Any", "Pair[A,C];Pair[A,C]", "S;N", "A;N",
        "P[A,A];Any", "c;c", "Z;Z", "a;a", "B[B[A]];Any", "K[C];Any"};

    public static void main(String[] args) {
        sameAsNew();
        valuesStay();
        manyValues();
        Due.end();
    }

    private static void sameAsNew() {
        Random random = new Random(5);
        for (int round = 0; round < 12; round++) {
            Due used = Due.fresh();
            String loaded = null;
            for (int i = 0; i < 20; i++) {
                String text = PROGRAMS[random.nextInt(PROGRAMS.length)];
                int fault = used.program(text);
                Due.same(text, fault, Due.fresh().program(text));
                loaded = fault == 0 ? text : loaded;
                Due fresh = Due.fresh();
                if (loaded != null) {
                    fresh.with(loaded);
                    // what was run or made of it ahead of a fault is done again
                    Due.same(loaded, answers(used, i).toString(), answers(fresh, i).toString());
                }
            }
        }
    }

    private static List<String> answers(Due d, int turn) {
        List<String> all = new ArrayList<>();
        if (turn % 2 == 0) {
            all.add("instances " + d.bench.instances());
        }
        all.add("run " + d.bench.run(400) + " " + d.bench.count(3) + " " + d.bench.calls() + " " + d.bench.failed());
        for (String text : ASKED) {
            all.add(text + " " + d.implementing(text));
        }
        all.add("instances " + d.bench.instances());
        for (int what = 0; what < 3; what++) {
            all.add("made " + d.bench.made(what));
        }
        for (String text : ASKED) {
            all.add(d.isMade(text.substring(0, text.indexOf(';'))) + "");
        }
        all.add(d.printed(0));
        all.add(d.bench.print(1) < 0 ? "no value" : d.out());
        all.add(d.bench.count(0) + " " + d.bench.count(1) + " " + d.bench.count(5));
        return all;
    }

    private static void valuesStay() {
        Due d = Due.fresh().with(PROGRAMS[0]);
        Due.same("run", d.bench.run(50), 0);
        String value = "Box[Box[A]]{Box[A]{A{}}}";
        Due.same("value", d.printed(1), value);
        Due.same("implementing", d.implementing("Box[Box[A]];Any"), 1);
        Due.same("instances", d.bench.instances(), 1);
        Due.same("isMade", d.isMade("Box[Box[A]]"), 1);
        Due.same("a fault", d.program("type A struct{} main A{"), 1 + 16 * 23);
        Due.same("value", d.printed(1), value);
        // behind a fault all is asked of the program that stayed
        Due e = Due.fresh().with(PROGRAMS[2]);
        Due.same("a fault", e.program(PROGRAMS[12]) & 15, 7);
        Due.same("instances", e.bench.instances(), 1);
        Due.same("types", e.bench.made(0), 4);
        Due f = Due.fresh().with(BASE + "type M interface{m()A;} func(x C)m()A{return A{}} main A{};");
        Due.same("a fault", f.program(PROGRAMS[9]) & 15, 2);
        Due.same("implementing", f.implementing("C;M"), 1);
        Due.same("implementing", f.implementing("A;M"), 0);
        // PARAMS of where a fault was hold no longer
        Due.same("a fault", d.program(PROGRAMS[8]) & 15, 2);
        Due.same("c", d.implementing("c;Any"), -2);
        Due.same("run", d.bench.run(50), 0);
        Due.same("value", d.printed(1), value);
    }

    private static void manyValues() {
        // each t() takes 7 STEPS and makes two values; 19 times 20 of them
        String text = "type Any interface{} type S struct{a Any;b Any;c Any;d Any;e Any;f Any;} type T struct{} "
            + "func(x T)s()Any{return S{x,x,x,x,x,T{}}} func(x T)t()T{return x.s().(S).f.(T)} "
            + "func(x T)tt()T{return x" + ".t()".repeat(20) + "} main T{}" + ".tt()".repeat(19) + ".s();";
        Due d = Due.fresh().with(text);
        for (int i = 0; i < 20; i++) {
            Due.same("run " + i, d.bench.run(5000), 0);
            Due.same("steps " + i, d.bench.count(3), 1 + 19 * (1 + 20 * 7) + 3);
            Due.same("value " + i, d.printed(1), "S{T{},T{},T{},T{},T{},T{}}");
        }
    }
}
