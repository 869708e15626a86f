import java.util.ArrayList;
import java.util.List;

/** Terms 3, INSTANCES, and promises 8, 9, 10: what is among them, what is not, and when they can't be made. */
public final class InstancesEdgeTest {
    private static final String BASE = "type Any interface{} type A struct{} type C struct{} "
        + "type Box[a Any] struct{v a;} type P[a Any,b Any] struct{} type H struct{h Any;} ";

    public static void main(String[] args) {
        eachTypeAndThoseInThat();
        setsHaveEachOnce();
        callsByAllThree();
        structsAmongTheTypes();
        withTypesPut();
        onlyWhatIsReached();
        onlyAsItsType();
        oneHundredAndFifty();
        methodsAreTheLast();
        onceForAProgram();
        noneMade();
        cantBeMade();
        anotherWhat();
        isMadeInItsOrder();
        Due.end();
    }

    private static Due made(String text, int types, int calls, int methods) {
        Due d = Due.fresh().with(BASE + text);
        Due.same(text + " instances", d.bench.instances(), methods);
        Due.same(text + " types", d.bench.made(0), types);
        Due.same(text + " CALLS", d.bench.made(1), calls);
        Due.same(text + " METHODS", d.bench.made(2), methods);
        return d;
    }

    private static void notMade(String text) {
        Due d = Due.fresh().with(BASE + text);
        Due.same(text, d.bench.instances(), -1);
        Due.same(text + " types", d.bench.made(0), -1);
    }

    private static void among(Due d, String yes, String no) {
        for (String type : yes.split(" ")) {
            Due.same(type, d.isMade(type), 1);
        }
        for (String type : no.split(" ")) {
            Due.same(type, d.isMade(type), 0);
        }
    }

    private static void eachTypeAndThoseInThat() {
        Due.says("each TYPE in it, and those in that, are instances of types");
        among(made("main A{};", 1, 0, 0), "A", "C Any");
        among(made("main P[Box[A],P[C,Any]]{};", 6, 0, 0), "P[Box[A],P[C,Any]] Box[A] A P[C,Any] C Any", "Box[C] P[A,C]");
        among(made("main H{A{}}.h.(Box[P[C,C]]);", 5, 0, 0), "H A Box[P[C,C]] P[C,C] C", "Any");
        among(made("func(x A)g[p Any]()A{return x} main A{}.g[Box[C]]();", 3, 1, 1), "A Box[C] C", "Any");
        // in E within E
        among(made("main Box[Box[A]]{Box[A]{A{}}}.v.v;", 3, 0, 0), "A Box[A] Box[Box[A]]", "C");
        among(made("func(x A)k(y Any)A{return x} main A{}.k(H{C{}});", 3, 1, 1), "A H C", "Any");
    }

    private static void setsHaveEachOnce() {
        Due.says("sets of TYPES, of CALLS, of METHODS");
        made("func(x A)m()A{return x} main A{}.m().m().m();", 1, 1, 1);
        made("func(x A)m()A{return A{}.m().m()} main A{}.m();", 1, 1, 1);
        made("main P[P[A,A],P[A,A]]{};", 3, 0, 0);
        made("func(x A)g[p Any]()A{return x} main A{}.g[A]().g[A]();", 1, 1, 1);
        made("func(x Box[p])m()Any{return Box[p]{x.v}.m()} main Box[A]{A{}}.m();", 2, 1, 1);
    }

    private static void callsByAllThree() {
        Due.says("the type of what is ahead of the point, the METHOD, the TYPES told are one of CALLS");
        // another METHOD, other TYPES told, another type ahead
        made("func(x A)m()A{return x} func(x A)n()A{return x} main A{}.m().n();", 1, 2, 2);
        made("func(x A)g[p Any,q Any]()A{return x} main A{}.g[A,C]().g[C,A]().g[C,C]();", 2, 3, 3);
        made("func(x A)g[p Any]()A{return x} func(x A)h[p Any]()A{return x} main A{}.g[A]().h[A]();", 1, 2, 2);
        made("func(x A)m()A{return x} func(x C)m()A{return A{}} main C{}.m().m();", 2, 2, 2);
        made("func(x Box[p])m()A{return A{}} func(x A)b()Box[C]{return Box[C]{C{}}} main Box[A]{A{}}.m().b().m();", 4, 3, 3);
        // as an interface and as a struct: two CALLS, one METHOD
        made("type I interface{m()I;} func(x A)m()I{return x} main A{}.m().m();", 1, 2, 1);
        // a PARAM ahead of the point is what is put for it
        made("type I interface{m()Any;} func(x A)m()Any{return x} func(x C)m()Any{return x} "
            + "func(x A)k[p I](y p)Any{return y.m()} main H{A{}.k[C](C{})};", 3, 2, 2);
    }

    private static void structsAmongTheTypes() {
        Due.says("for each CALL of type t and each struct S among the types that IMPLEMENTS t");
        String m = "type I interface{m()Any;} func(x A)m()Any{return x} func(x C)m()Any{return x} "
            + "func(x Box[p])m()Any{return x} type HI struct{i I;} ";
        made(m + "main HI{A{}}.i.m();", 2, 1, 1);
        made(m + "main H{HI{A{}}.i.m()}.h.(C);", 4, 1, 2);
        made(m + "main H{HI{A{}}.i.m()}.h.(Box[C]);", 5, 1, 3);
        made(m + "main H{HI{A{}}.i.m()}.h.(Box[Box[C]]);", 6, 1, 4);
        // an interface among the types is no struct, H does not implement I
        made(m + "main H{HI{A{}}.i.m()}.h.(I);", 4, 1, 1);
        // a struct that is not among them has no METHOD, though it is the type of what is ahead
        made("type HB struct{b C;} func(x A)hb()HB{return x.hb()} func(x C)m()C{return x} main A{}.hb().b.m();", 1, 2, 1);
        // one that comes to be among them later
        made("type I interface{m()Any;} func(x A)m()Any{return H{x}} func(x H)m()Any{return C{}} func(x C)m()Any{return x} "
            + "type HI struct{i I;} main HI{A{}}.i.m();", 4, 1, 3);
        // a CALL of a struct is for that struct alone
        made("func(x Box[p])m()Any{return x} main H{Box[A]{A{}}.m()}.h.(Box[C]);", 5, 1, 1);
    }

    private static void withTypesPut() {
        Due.says("those of its func's E, with S's TYPES and these for its PARAMS");
        Due d = made("type T[a Any,b Any] struct{} func(x T[p,q])m[r Any,s Any]()Any{return P[P[p,q],P[r,s]]{}} "
            + "main T[A,C]{}.m[H,Any]();", 8, 1, 1);
        among(d, "P[P[A,C],P[H,Any]] P[A,C] P[H,Any] T[A,C]", "P[C,A] P[Any,H] P[A,A] P[H,H]");
        String six = "func(x A)m[" + Texts.list(6, "p# Any", ",") + "]()Any{return P[P[P[p0,p1],p2],P[P[p3,p4],p5]]{}} ";
        Due e = made(six + "main A{}.m[A,C,H,Any,Box[A],Box[C]]();", 6 + 5, 1, 1);
        among(e, "P[P[P[A,C],H],P[P[Any,Box[A]],Box[C]]] P[P[A,C],H] P[Any,Box[A]]", "P[C,A] P[A,A]");
        // handed on from METHOD to METHOD
        Due f = made("func(x A)m[p Any,q Any]()Any{return x.n[q,p]()} func(x A)n[p Any,q Any]()Any{return P[p,q]{}} "
            + "main A{}.m[A,C]();", 3, 2, 2);
        among(f, "P[C,A]", "P[A,C]");
    }

    private static void onlyWhatIsReached() {
        Due.says("They are the least sets");
        made("func(x A)m()Any{return H{x}} func(x C)n()Any{return Box[C]{x}} main A{};", 1, 0, 0);
        made("func(x A)m()Any{return H{x}} func(x A)n()Any{return Box[C]{C{}}} main A{}.m();", 2, 1, 1);
        made("func(x Box[p])m()Any{return Box[Box[p]]{x}.m()} main Box[A]{A{}};", 2, 0, 0);
        made("func(x Box[p])m()Any{return Box[Box[p]]{x}} main Box[A]{A{}}.m();", 3, 1, 1);
        // round and round is not endless
        made("func(x A)m()Any{return C{}.m()} func(x C)m()Any{return A{}.m()} main A{}.m();", 2, 2, 2);
        made("func(x A)g[p Any,q Any]()Any{return x.g[q,p]()} main A{}.g[A,C]();", 2, 2, 2);
    }

    private static void onlyAsItsType() {
        Due.says("(A TYPE that E only has as its type, but tells nowhere, is none by that.)");
        among(made("func(x A)b()Box[C]{return x.b()} main A{}.b();", 1, 1, 1), "A", "Box[C] C");
        among(made("main H{A{}}.h;", 2, 0, 0), "H A", "Any");
        among(made("func(x A)k(y Box[C])Box[C]{return y} main A{};", 1, 0, 0), "A", "Box[C]");
        among(made("func(x A)k[p Any](y p)p{return y} main A{}.k[C](C{});", 2, 1, 1), "A C", "Any");
        among(made("main H{A{}}.h.(Any);", 3, 0, 0), "H A Any", "C");
    }

    /** Literals of that many different types W[.,.] in one value of six. */
    private static String literals(int count) {
        List<String> parts = new ArrayList<>();
        for (int i = 0; i < count; i++) {
            parts.add("W[T" + i / 9 + ",T" + i % 9 + "]{}");
        }
        while (parts.size() > 1) {
            List<String> next = new ArrayList<>();
            for (int from = 0; from < parts.size(); from += 6) {
                StringBuilder value = new StringBuilder("S{");
                for (int i = from; i < from + 6; i++) {
                    value.append(i == from ? "" : ",").append(i < parts.size() ? parts.get(i) : "W[T0,T0]{}");
                }
                next.add(value + "}");
            }
            parts = next;
        }
        return parts.get(0);
    }

    private static void methodsAreTheLast() {
        Due.says("more than 150 types, CALLS, METHODS in all (METHODS the last of them)");
        String w = Texts.list(9, "type T# struct{}", " ") + " type W[a Any,b Any] struct{} type S struct{"
            + Texts.list(6, "f# Any;", "") + "} type I interface{go()Any;} func(x W[a,b])go()Any{return x} main ";
        // of 69: 69 W, 9 T, S, I; one CALL; 69 METHODS
        made(w + literals(69) + ".f0.(I).go();", 80, 1, 69);
        notMade(w + literals(69) + ".f0.(I).go().(A);");
        notMade(w + literals(70) + ".f0.(I).go();");
        made(w + literals(68) + ".f0.(I).go().(A);", 80, 1, 68);
        made(w + literals(68) + ".f0.(I).go().(H);", 80, 1, 68);
        made(w + literals(81) + ".f0;", 91, 0, 0);
    }

    private static void oneHundredAndFifty() {
        Due.says("if there would be more than 150 types, CALLS, METHODS in all, they can't be made");
        // each call of g() with other TYPES: one CALL and one METHOD; 72 of them, A, C, Any, H, E, S: 150 in all
        made(calls(72, ""), 6, 72, 72);
        notMade(calls(72, "Box[A]"));
        notMade(calls(73, ""));
        made(calls(71, ""), 6, 71, 71);
        made(calls(71, "Box[A]"), 7, 71, 71);
        made(calls(71, "Box[Box[A]]"), 8, 71, 71);
        notMade(calls(71, "Box[Box[Box[A]]]"));
        // without an end
        notMade("func(x A)g[p Any]()Any{return x.g[Box[p]]()} main A{}.g[A]();");
        notMade("func(x Box[p])m()Any{return Box[Box[p]]{x}.m()} main Box[A]{A{}}.m();");
    }

    private static String calls(int count, String cast) {
        String[] types = {"A", "C", "Any", "H", "E"};
        StringBuilder text = new StringBuilder("type E struct{} type S struct{" + Texts.list(6, "f# Any;", "")
            + "} func(x A)g[p Any,q Any,r Any]()A{return x} main S{");
        for (int row = 0; row < 6; row++) {
            text.append(row == 0 ? "A{}" : ",A{}");
            for (int i = 20 * row; i < Math.min(20 * row + 20, count); i++) {
                text.append(".g[").append(types[i / 25]).append(",").append(types[i / 5 % 5]).append(",")
                    .append(types[i % 5]).append("]()");
            }
        }
        return text + (cast.isEmpty() ? "};" : "}.f0.(" + cast + ");");
    }

    private static void onceForAProgram() {
        Due.says("INSTANCES are made (once for a PROGRAM): how many METHODS");
        Due d = made("func(x A)m()A{return x} main A{}.m();", 1, 1, 1);
        for (int i = 0; i < 3; i++) {
            Due.same("again", d.bench.instances(), 1);
            Due.same("types", d.bench.made(0), 1);
            Due.same("run", d.bench.run(9), 0);
            Due.same("implementing", d.implementing("Box[A];Any"), 1);
            Due.same("not among them by that", d.isMade("Box[A]"), 0);
        }
        Due.same("no METHODS are 0", made("main A{};", 1, 0, 0).bench.instances(), 0);
    }

    private static void noneMade() {
        Due.says("none were made since the PROGRAM");
        Due d = Due.fresh();
        Due.same("no program", d.bench.instances(), -1);
        Due.same("no program", d.bench.made(0), -1);
        d.with(BASE + "main A{};");
        for (int what = 0; what < 3; what++) {
            Due.same("made " + what, d.bench.made(what), -1);
        }
        Due.same("isMade", d.isMade("A"), -3);
        Due.same("made", d.bench.instances(), 0);
        Due.same("types", d.bench.made(0), 1);
        Due.same("isMade", d.isMade("A"), 1);
        Due.same("a fault", d.program("main A{};"), 2 + 16 * 5);
        Due.same("they stay", d.bench.made(0), 1);
        Due.same("isMade", d.isMade("A"), 1);
        d.with(BASE + "main C{};");
        Due.same("none since", d.bench.made(0), -1);
        Due.same("isMade", d.isMade("A"), -3);
        Due.same("made", d.bench.instances(), 0);
        Due.same("A", d.isMade("A"), 0);
        Due.same("C", d.isMade("C"), 1);
    }

    private static void cantBeMade() {
        Due.says("NONE: no program, or they can't be (there are none then)");
        Due d = Due.fresh().with(BASE + "func(x Box[p])m()Any{return Box[Box[p]]{x}.m()} main Box[A]{A{}}.m();");
        for (int i = 0; i < 2; i++) {
            Due.same("instances", d.bench.instances(), -1);
            for (int what = -1; what < 4; what++) {
                Due.same("made " + what, d.bench.made(what), -1);
            }
            Due.same("isMade", d.isMade("A"), -3);
            Due.same("isMade, no good", d.isMade("E"), -2);
            Due.same("isMade, no TYPE", d.isMade(""), -1);
        }
        Due.same("a run of it", d.bench.run(30), 2);
        // the next PROGRAM's can
        d.with(BASE + "main A{};");
        Due.same("instances", d.bench.instances(), 0);
        Due.same("types", d.bench.made(0), 1);
    }

    private static void anotherWhat() {
        Due.says("What 0: types, 1: CALLS, 2: METHODS among the INSTANCES; NONE: another what");
        Due d = made("func(x A)g[p Any]()A{return x} main H{A{}.g[C]().g[H]()};", 3, 2, 2);
        Due.same("0", d.bench.made(0), 3);
        Due.same("1", d.bench.made(1), 2);
        Due.same("2", d.bench.made(2), 2);
        for (int what : new int[] {-1, 3, 4, 256, Integer.MIN_VALUE, Integer.MAX_VALUE}) {
            Due.same("made " + what, d.bench.made(what), -1);
        }
    }

    private static void isMadeInItsOrder() {
        Due.says("1 if it is among the INSTANCES, 0 if not; -1, -2 as implementing(); -3: none were made");
        String m = "type M interface{m()A;} type N[a M] struct{} ";
        Due d = Due.fresh();
        Due.same("no program", d.isMade("A"), -1);
        d.with(BASE + m + "main Box[A]{A{}};");
        for (int round = 0; round < 2; round++) {
            for (String text : new String[] {"", " ", ";", "A;", ";A", "A;A", "A A", "A,A", "A[", "A]", "A[]", "A[A", "A[A]]",
                "A[,A]", "A{}", "main", "#", "1", "abcdefghijklm"}) {
                Due.same(text, d.isMade(text), -1);
            }
            for (String text : new String[] {"E", "a", "A[A]", "Box", "Box[A,A]", "Box[E]", "N[A]", "N[Any]", "Box[N[A]]",
                Texts.nest(10, "Box[", "A", "]")}) {
                Due.same(text, d.isMade(text), -2);
            }
            Due.same("Box[A]", d.isMade("Box[A]"), round == 0 ? -3 : 1);
            Due.same("A", d.isMade("\n A "), round == 0 ? -3 : 1);
            Due.same("N[M]", d.isMade("N[M]"), round == 0 ? -3 : 0);
            Due.same("ten", d.isMade(Texts.nest(9, "Box[", "A", "]")), round == 0 ? -3 : 0);
            Due.same("instances", d.bench.instances(), 0);
        }
    }
}
