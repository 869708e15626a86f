import java.util.HashSet;
import java.util.Set;

/** Promises 8, 9, 10: the instances that a run can need. */
public final class InstancesTest {
    private static final String BASE = "type Any interface{} type A struct{} type C struct{} "
        + "type Box[a Any] struct{v a;} type P[a Any,b Any] struct{x a;y b;} ";

    public static void main(String[] args) {
        sets();
        callsOfInterfaces();
        typesWithin();
        endless();
        onlyWhatIsTold();
        limitOfAll();
        greatTypes();
        onceForAProgram();
        wrongTapes();
        Due.end();
    }

    private static Due made(String text, int types, int calls, int methods) {
        Due d = Due.fresh().with(BASE + text);
        Due.same(text + " instances", d.bench.instances(), methods);
        Due.same(text + " types", d.bench.made(0), types);
        Due.same(text + " CALLS", d.bench.made(1), calls);
        Due.same(text + " METHODS", d.bench.made(2), methods);
        return d;
    }

    private static void notMade(String text) {
        Due d = Due.fresh().with(BASE + text);
        Due.same(text + " instances", d.bench.instances(), -1);
        for (int what = 0; what <= 2; what++) {
            Due.same(text + " made " + what, d.bench.made(what), -1);
        }
        Due.same(text + " is A made", d.isMade("A"), -3);
        Due.same(text + " once more", d.bench.instances(), -1);
    }

    private static void sets() {
        made("main A{};", 1, 0, 0);
        made("main P[A,A]{A{},A{}};", 2, 0, 0);
        made("func(x A)m()A{return x} main A{};", 1, 0, 0);
        made("func(x A)m()A{return x} main A{}.m().m();", 1, 1, 1);
        made("func(x A)m()A{return x.m()} main A{}.m();", 1, 1, 1);
        made("func(x A)m()C{return C{}.n()} func(x C)n()C{return x} main A{}.m();", 2, 2, 2);
        // TYPES told make another CALL and another METHOD
        made("func(x A)m[p Any]()A{return x} main A{}.m[A]().m[C]().m[A]();", 2, 2, 2);
        made("func(x A)m()A{return x} func(x A)g[p Any]()A{return x} main A{}.g[A]().m().g[C]().m().g[C]();", 2, 3, 3);
        made("func(x Box[b])m()b{return x.v} main P[A,C]{Box[A]{A{}}.m(),Box[C]{C{}}.m()};", 5, 2, 2);
    }

    private static void callsOfInterfaces() {
        String m = "type M interface{m()Any;} func(x A)m()Any{return C{}} func(x C)m()Any{return x} ";
        made(m + "type H struct{m M;} main H{A{}}.m.m();", 3, 1, 2);
        made(m + "main Box[M]{A{}}.v.m();", 4, 1, 2);
        made(m + "main Box[M]{A{}}.v.m().(M).m();", 4, 1, 2);
        // a struct that comes to be only by what is called behind counts for CALLS ahead
        made(m + "func(x Box[b])m()Any{return x} main Box[M]{A{}}.v.m().(Box[M]).m();", 4, 2, 3);
        // a CALL of a type that no struct among the types implements has no METHOD
        made(m + "type K interface{k()K;} func(x A)cast(y Any)Any{return y.(K).k()} main A{}.cast(A{});", 2, 2, 1);
    }

    private static void typesWithin() {
        Due d = made("main Box[Any]{Box[P[A,C]]{P[A,C]{A{},C{}}}}.v.(Box[C]);", 7, 0, 0);
        for (String type : new String[] {"Any", "A", "C", "P[A,C]", "Box[Any]", "Box[P[A,C]]", "Box[C]"}) {
            Due.same(type, d.isMade(type), 1);
        }
        for (String type : new String[] {"Box[A]", "P[C,A]", "Box[Box[C]]"}) {
            Due.same(type, d.isMade(type), 0);
        }
        // those told for a METHOD, with what is put in them
        Due e = made("func(x Box[b])m[p Any]()Any{return A{}.n[P[b,p]]()} func(x A)n[q Any]()Any{return x} "
            + "main Box[C]{C{}}.m[A]();", 4, 2, 2);
        Due.same("P[C,A]", e.isMade("P[C,A]"), 1);
        Due.same("P[A,C]", e.isMade("P[A,C]"), 0);
    }

    private static void onlyWhatIsTold() {
        // Box[A] is the type of an E, but told nowhere in one that is gone through
        Due d = made("type H struct{b Box[A];} func(x A)m(y H)Any{return y.b} main A{};", 1, 0, 0);
        Due.same("Box[A]", d.isMade("Box[A]"), 0);
        Due.same("H", d.isMade("H"), 0);
        // the type ahead of a point is one of a CALL, but no type by that
        Due e = made("type M interface{m()M;} func(x A)m()M{return x} main A{}.m().m();", 1, 2, 1);
        Due.same("M", e.isMade("M"), 0);
    }

    private static void endless() {
        notMade("func(x Box[b])m()Any{return Box[Box[b]]{x}.m()} main Box[A]{A{}}.m();");
        notMade("func(x A)m[p Any]()Any{return x.m[P[p,p]]()} main A{}.m[A]();");
        // it would be endless, but is not reached
        made("func(x Box[b])m()Any{return Box[Box[b]]{x}.m()} main Box[A]{A{}};", 2, 0, 0);
        // it goes round
        made("func(x P[a,b])m()Any{return P[b,a]{x.y,x.x}.m()} main P[A,C]{A{},C{}}.m();", 4, 2, 2);
    }

    private static void limitOfAll() {
        // six types, and as many CALLS and METHODS as there are calls
        made(manyCalls(71, ""), 6, 71, 71);
        made(manyCalls(72, ""), 6, 72, 72);
        notMade(manyCalls(73, ""));
        notMade(manyCalls(72, "Extra"));
        made(manyCalls(71, "Extra"), 7, 71, 71);
        // no CALLS at all
        made(manyTypes(150), 150, 0, 0);
        notMade(manyTypes(151));
        // CALLS of an interface that nothing implements
        made(callsOnly(146), 4, 146, 0);
        notMade(callsOnly(147));
    }

    /** A main in which that many types are told: A, Any, Box[Any], and I[..,..] around chains of structs. */
    private static String manyTypes(int count) {
        Set<String> types = new HashSet<>(Set.of("A", "Any", "Box[Any]"));
        StringBuilder casts = new StringBuilder();
        for (int pair = 0; types.size() < count; pair++) {
            // room for one is left: the I around both chains
            String type = "I[" + chain(2 * pair, types, count - 1) + "," + chain(2 * pair + 1, types, count - 1) + "]";
            types.add(type);
            casts.append(".(").append(type).append(")");
        }
        return "type B[a Any] struct{} type D[a Any] struct{} type E[a Any] struct{} type F[a Any] struct{} "
            + "type I[a Any,b Any] interface{} main Box[Any]{A{}}.v" + casts + ";";
    }

    /** Structs around A that no other chain has, each added to the types while these are not as many as told. */
    private static String chain(int number, Set<String> types, int most) {
        String type = "A";
        for (int i = 0; i < 7 && types.size() < most; i++) {
            type = "BDEF".charAt(number >> 2 * i & 3) + "[" + type + "]";
            types.add(type);
        }
        return type;
    }

    /** A main with calls on an interface alone, in rows of ten, six rows in one value. */
    private static String callsOnly(int count) {
        String[] types = {"A", "K", "Any", "Q"};
        String whole = "Q{A{},A{},A{},A{},A{},A{}}";
        int n = 0;
        while (n < count) {
            StringBuilder value = new StringBuilder("Q{" + whole);
            for (int i = 1; i < 6; i++) {
                value.append(",Q{A{},A{},A{},A{},A{},A{}}.a");
                for (int j = 0; j < 9 && n < count; j++) {
                    value.append(".(K).k[").append(types[n / 64 % 4]).append(",").append(types[n / 16 % 4]).append(",")
                        .append(types[n / 4 % 4]).append(",").append(types[n % 4]).append("]()");
                    n++;
                }
            }
            whole = value + "}";
        }
        return "type Q struct{a Any;b Any;c Any;d Any;e Any;f Any;} "
            + "type K interface{k[a Any,b Any,c Any,d Any]()Any;} main " + whole + ";";
    }

    /** A main with calls of one METHOD, each with other TYPES told, in rows of ten. */
    private static String manyCalls(int count, String around) {
        String[] types = {"A", "C", "Any", "Z", "N"};
        String whole = "";
        for (int from = 0; from < count; from += 10) {
            StringBuilder row = new StringBuilder("Z{}");
            for (int n = from; n < Math.min(from + 10, count); n++) {
                row.append(n == from ? "" : ".(Z)").append(".m[").append(types[n / 25 % 5]).append(",")
                    .append(types[n / 5 % 5]).append(",").append(types[n % 5]).append("]()");
            }
            whole = from == 0 ? row.toString() : "Pair{" + whole + "," + row + "}";
        }
        return "type Z struct{} type N interface{} type Pair struct{x Any;y Any;} type Extra struct{x Any;} "
            + "func(x Z)m[p Any,q Any,r Any]()Any{return x} "
            + "main " + (around.isEmpty() ? whole : around + "{" + whole + "}") + ";";
    }

    private static void greatTypes() {
        String p15 = "P[P[P[A,A],P[A,A]],P[P[A,A],P[A,A]]]";
        String big = "type Q[a Any] struct{} type Two[a Any] interface{two()P[a,a];} "
            + "func(x Q[a])two()P[a,a]{return x.v().(P[a,a])} func(x Q[a])v()Any{return x} ";
        String p31 = "P[" + p15 + "," + p15 + "]";
        // asking whether Q[p31] implements Two[A] makes a type of 63 WORDS
        notMade(big + "type H struct{t Two[A];} func(x A)two()P[A,A]{return P[A,A]{x,x}} "
            + "main P[Any,Any]{H{A{}}.t.two(),Q[" + p31 + "]{}};");
        made(big + "type H struct{t Two[A];} func(x A)two()P[A,A]{return P[A,A]{x,x}} "
            + "main P[Any,Any]{H{A{}}.t.two(),Q[" + p15 + "]{}};", 8, 1, 1);
        // the type of what is ahead of a point comes to be, too, though a run has no need of it
        String ahead = "type W[a Any] interface{w()Any;} type V[a Any] struct{f W[P[a,a]];} "
            + "func(x A)w()Any{return x} func(x V[a])go()Any{return x.f.w()} func(x A)mk[q Any]()Any{return V[P[q,q]]{x}.go()} main A{}.mk[";
        notMade(ahead + p15 + "]();");
        Due.same("run", Due.fresh().with(BASE + ahead + p15 + "]();").bench.run(5000), 0);
        made(ahead + "A]();", 3, 3, 3);
    }

    private static void onceForAProgram() {
        Due d = Due.fresh();
        Due.same("no program", d.bench.instances(), -1);
        d.with(BASE + "func(x A)m()A{return x} main A{}.m();");
        Due.same("not made", d.bench.made(0), -1);
        Due.same("not made", d.isMade("A"), -3);
        Due.same("made", d.bench.instances(), 1);
        Due.same("run", d.bench.run(9), 0);
        Due.same("made", d.bench.instances(), 1);
        Due.same("value", d.printed(1), "A{}");
        Due.same("what 3", d.bench.made(3), -1);
        Due.same("what -1", d.bench.made(-1), -1);
        Due.same("types", d.bench.made(0), 1);
        Due.same("a fault", d.program("x"), 1);
        Due.same("they stay", d.bench.made(2), 1);
        d.with(BASE + "main Box[C]{C{}};");
        Due.same("none of the new one", d.bench.made(0), -1);
        Due.same("none of the new one", d.isMade("A"), -3);
        Due.same("made", d.bench.instances(), 0);
        Due.same("types", d.bench.made(0), 2);
        Due.same("A", d.isMade("A"), 0);
        Due.same("C", d.isMade("C"), 1);
    }

    private static void wrongTapes() {
        Due d = Due.fresh();
        Due.same("no program", d.isMade("A"), -1);
        d.with(BASE + "type M interface{m()M;} type N[a M] struct{} main Box[A]{A{}};");
        Due.same("empty", d.isMade(""), -1);
        Due.same("none made: no TYPE", d.isMade("A;"), -1);
        Due.same("none made: no good", d.isMade("D"), -2);
        Due.same("none made", d.isMade("A"), -3);
        d.bench.instances();
        Due.same("Box[A]", d.isMade(" Box [ A ] "), 1);
        Due.same("A;A", d.isMade("A;A"), -1);
        Due.same("Box[", d.isMade("Box["), -1);
        Due.same("func", d.isMade("func"), -1);
        Due.same("D", d.isMade("D"), -2);
        Due.same("Box", d.isMade("Box"), -2);
        Due.same("A[A]", d.isMade("A[A]"), -2);
        Due.same("N[A]", d.isMade("N[A]"), -2);
        Due.same("N[M]", d.isMade("N[M]"), 0);
        Due.same("10", d.isMade("Box[".repeat(9) + "A" + "]".repeat(9)), 0);
        Due.same("11", d.isMade("Box[".repeat(10) + "A" + "]".repeat(10)), -2);
    }
}
