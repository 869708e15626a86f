/** Promises 11, 12: types and values as signs. */
public final class PrintTest {
    private static final String BASE = "type Any interface{} type A struct{} type C struct{} "
        + "type Box[a Any] struct{v a;} type P[a Any,b Any] struct{x a;y b;} ";

    public static void main(String[] args) {
        types();
        values();
        cutOff();
        outStays();
        Due.end();
    }

    private static void types() {
        type("main A{};", "A");
        type("main P[Box[A],C]{Box[A]{A{}},C{}};", "P[Box[A],C]");
        type("main P[Box[ P [C,Any]],A]{Box[P[C,Any]]{P[C,Any]{C{},A{}}},A{}}.x;", "Box[P[C,Any]]");
        type("main Box[Any]{A{}}.v;", "Any");
        type("main Box[Any]{A{}}.v.(P[A,Box[Any]]);", "P[A,Box[Any]]");
        type("func(x Box[b])m[c Any](y c)P[c,Box[b]]{return P[c,Box[b]]{y,x}} "
            + "main Box[A]{A{}}.m[Box[C]](Box[C]{C{}});", "P[Box[C],Box[A]]");
        type("type Abcdefghij12 struct{} main Abcdefghij12{};", "Abcdefghij12");
    }

    private static void type(String text, String due) {
        Due.same(text, Due.fresh().with(BASE + text).printed(0), due);
    }

    private static void values() {
        value("main A{};", "A{}");
        value("main P[A,Box[C]]{A{},Box[C]{C{}}};", "P[A,Box[C]]{A{},Box[C]{C{}}}");
        // the value's own type, not the one that E has
        value("main Box[Any]{Box[A]{A{}}}.v;", "Box[A]{A{}}");
        value("func(x Box[b])m[c Any](y c)Any{return P[c,Box[b]]{y,x}} main Box[A]{A{}}.m[C](C{});",
            "P[C,Box[A]]{C{},Box[A]{A{}}}");
        value("type S struct{a Any;b Any;c Any;d Any;e Any;f Any;} "
            + "main S{A{},C{},A{},C{},A{},S{A{},A{},A{},A{},A{},C{}}};",
            "S{A{},C{},A{},C{},A{},S{A{},A{},A{},A{},A{},C{}}}");
    }

    private static void value(String text, String due) {
        Due d = Due.fresh().with(BASE + text);
        Due.same("nothing was run", d.bench.print(1), -1);
        Due.same(text, d.bench.run(5000), 0);
        Due.same(text, d.printed(1), due);
    }

    private static void cutOff() {
        // 2^9 A, in pairs of one and the same value
        Due d = Due.fresh().with(BASE + "type T struct{x Any;y Any;} "
            + "func(x A)t(y Any)Any{return T{y,y}} func(x A)two()Any{return x.t(x)} "
            + "main " + "A{}.t(".repeat(8) + "A{}.two()" + ")".repeat(8) + ";");
        Due.same("run", d.bench.run(5000), 0);
        String whole = "A{}";
        for (int i = 0; i < 9; i++) {
            whole = "T{" + whole + "," + whole + "}";
        }
        Due.same("print", d.bench.print(1), 2000);
        Due.same("the first 2,000", d.out(), whole.substring(0, 2000));
        Due.same("sign 1999", d.bench.out(1999), whole.charAt(1999));
        Due.same("sign 2000", d.bench.out(2000), -1);
    }

    private static void outStays() {
        Due d = Due.fresh();
        Due.same("print 0", d.bench.print(0), -1);
        d.with(BASE + "main Box[A]{A{}};");
        Due.same("nothing printed", d.out(), "");
        Due.same("print 0", d.bench.print(0), 6);
        Due.same("print 1", d.bench.print(1), -1);
        Due.same("print 2", d.bench.print(2), -1);
        Due.same("print -1", d.bench.print(-1), -1);
        Due.same("stays", d.out(), "Box[A]");
        Due.same("out -1", d.bench.out(-1), -1);
        Due.same("out least", d.bench.out(Integer.MIN_VALUE), -1);
        Due.same("out most", d.bench.out(Integer.MAX_VALUE), -1);
        Due.same("out 0", d.bench.out(0), 'B');
        Due.same("out 5", d.bench.out(5), ']');
        Due.same("out 6", d.bench.out(6), -1);
        Due.same("run", d.bench.run(5), 0);
        Due.same("print 1", d.bench.print(1), 11);
        Due.same("run", d.bench.run(1), 2);
        Due.same("print 1", d.bench.print(1), -1);
        Due.same("stays", d.out(), "Box[A]{A{}}");
        d.with(BASE + "main A{};");
        Due.same("another program", d.out(), "Box[A]{A{}}");
        Due.same("shorter", d.printed(0), "A");
        d.program("x");
        Due.same("a fault", d.printed(0), "A");
    }
}
