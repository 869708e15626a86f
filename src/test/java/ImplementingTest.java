/** Promise 4: whether a type on the tape implements another. */
public final class ImplementingTest {
    private static final String PROGRAM = "type Any interface{} type A struct{} type C struct{} "
        + "type Box[a Any] struct{v a;} type P[a Any,b Any] struct{} "
        + "type Get[a Any] interface{get()a;} type M interface{m(x A)C;} "
        + "type MM interface{m(x A)C;n()A;} type N[a M] struct{} "
        + "type Map[a Any] interface{map[b Any](x a,y b)Box[b];} "
        + "type Bnd[a Any] interface{bnd[b Get[b],c Any](x c)b;} "
        + "type Two[a Any] interface{two()P[a,a];one()A;} "
        + "func(x A)m(y A)C{return C{}} func(x C)m(y C)A{return A{}} "
        + "func(x Box[b])get()b{return x.v} "
        + "func(x Box[p])map[q Any](y p,z q)Box[q]{return Box[q]{z}} "
        + "func(x A)map[q M](y A,z q)Box[q]{return Box[q]{z}} "
        + "func(x A)bnd[q Get[q],r Any](y r)q{return x.bnd[q,r](y)} "
        + "func(x C)bnd[q Get[r],r Any](y r)q{return x.bnd[q,r](y)} "
        + "func(x A)two()P[A,A]{return P[A,A]{}} func(x A)one()C{return C{}} "
        + "func(x P[a,b])two()P[a,a]{return P[a,a]{}} func(x P[a,b])one()A{return A{}} "
        + "func(x P[a,b])m(y A,z A)C{return C{}} "
        + "type One interface{one()C;} type NoVar interface{nov()A;} func(x C)nov(y A)A{return y} "
        + "main A{};";

    private static final String P7 = "P[P[A,A],P[A,A]]";
    private static final String P15 = "P[" + P7 + "," + P7 + "]";
    private static final String P29 = "P[" + P15 + ",P[" + P7 + ",P[Box[A],Box[A]]]]";

    public static void main(String[] args) {
        shapes();
        methodsWithFormals();
        wrongTapes();
        illFormed();
        tooGreat();
        nothingElseChanges();
        Due.end();
    }

    private static void ask(String text, int due) {
        Due.same(text, Due.fresh().with(PROGRAM).implementing(text), due);
    }

    private static void shapes() {
        ask("A;Any", 1);
        ask("Any;Any", 1);
        ask("Any;A", 0);
        ask("A;A", 1);
        ask("A;C", 0);
        ask(" A\n ; M ", 1);
        ask("C;M", 0);
        ask("P[A,A];M", 0);
        ask("C;NoVar", 0);
        ask("A;One", 1);
        ask("P[A,A];One", 0);
        ask("MM;M", 1);
        ask("M;MM", 0);
        ask("M;A", 0);
        ask("A;MM", 0);
        ask("Box[A];Get[A]", 1);
        ask("Box[A];Get[C]", 0);
        ask("Box[Box[A]];Get[Box[A]]", 1);
        ask("Get[A];Get[A]", 1);
        ask("Get[A];Get[Any]", 0);
        ask("Box[A];Box[A]", 1);
        ask("Box[A];Box[C]", 0);
        ask("N[A];Any", 1);
    }

    private static void methodsWithFormals() {
        ask("Box[A];Map[A]", 1);
        ask("Box[A];Map[C]", 0);
        ask("A;Map[A]", 0);
        ask("A;Bnd[A]", 1);
        ask("C;Bnd[A]", 0);
        ask("Bnd[A];Bnd[C]", 1);
    }

    private static void wrongTapes() {
        Due.same("no program", Due.fresh().implementing("A;A"), -1);
        for (String text : new String[] {"", "A", "A;", ";A", "A;A;", "A A", "A;A A", "A[;A", "A];A", "Box[A;A",
            "Box[];A", "Box[A,];A", "Box[A][A];A", "type;A", "A;main", "A;9", "A#;A", "A{};A", "A;abcdefghijklm",
            "A,A", "Box[A;A];A", "A;;A"}) {
            ask(text, -1);
        }
        // what is wrong with the signs is told ahead of what is wrong with the types
        ask("D;", -1);
        ask("Box[".repeat(11) + "A" + "]".repeat(11) + ";", -1);
    }

    private static void illFormed() {
        ask("D;A", -2);
        ask("A;D", -2);
        ask("a;A", -2);
        ask("Box;A", -2);
        ask("A;Box[A,A]", -2);
        ask("A[A];A", -2);
        ask("Box[D];A", -2);
        ask("Box[A,A,A,A,A,A,A];A", -2);
        ask("N[C];A", -2);
        ask("A;Box[N[Any]]", -2);
        ask("Box[".repeat(9) + "A" + "]".repeat(9) + ";A", 0);
        ask("Box[".repeat(10) + "A" + "]".repeat(10) + ";A", -2);
        ask("A;" + "Box[".repeat(790) + "A" + "]".repeat(790), -2);
    }

    private static void tooGreat() {
        String p = "A";
        for (int i = 0; i < 4; i++) {
            p = "P[" + p + "," + p + "]";
        }
        ask(p + ";Any", 1);
        ask("P[" + p + "," + p + "];Any", -2);
        ask("Box[P[Box[A]," + p + "]];Any", 1);
        // P[a,a] with 29 and with 30 WORDS for a
        ask("P[" + P29 + ",A];Two[" + P29 + "]", 1);
        ask("P[Box[" + P29 + "],A];Two[Box[" + P29 + "]]", -2);
        // METHODS are asked for as they are told, the interface's types coming to be first
        ask("A;Two[" + p + "]", -2);
        ask("Two[" + p + "];Two[" + p + "]", -2);
        ask("C;Two[" + p + "]", 0);
        ask("P[" + p + ",A];Two[A]", -2);
        ask("A;Two[A]", 0);
        ask("P[A,C];Two[A]", 1);
        ask("P[C,A];Two[A]", 0);
    }

    private static void nothingElseChanges() {
        Due d = Due.fresh().with(PROGRAM);
        d.bench.run(5);
        Due.same("value", d.printed(1), "A{}");
        Due.same("Box[A];Get[A]", d.implementing("Box[A];Get[A]"), 1);
        Due.same("Box[D];Get[A]", d.implementing("Box[D];Get[A]"), -2);
        Due.same("steps", d.bench.count(3), 1);
        Due.same("value", d.printed(1), "A{}");
        Due.same("type", d.printed(0), "A");
        Due.same("run", d.bench.run(5), 0);
        Due.same("instances", d.bench.instances(), 0);
    }
}
