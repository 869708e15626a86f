/** Promises 1, 3, 4, 11, 12, 13, and that a PROGRAM with a FAULT leaves all as it was. */
public final class PromisesEdgeTest {
    private static final String BASE = "type Any interface{} type A struct{} type C struct{} type M interface{m()A;} "
        + "func(x C)m()A{return A{}} type Box[a Any] struct{v a;} type N[a M] struct{} type H struct{h Any;} ";

    public static void main(String[] args) {
        newObject();
        takesThePlace();
        elseAllStays();
        implementingNotTwo();
        implementingIllFormed();
        implementingTenWithin();
        implementingAgain();
        printWhat();
        printNone();
        outStays();
        twoThousandSigns();
        longestType();
        signsOfOut();
        countWhat();
        countsAsTheyGo();
        Due.end();
    }

    private static void newObject() {
        Due.says("FeatherBench(): No program.");
        FeatherBench x = new FeatherBench();
        Due.same("count 5", x.count(5), 0);
        Due.same("types", x.count(0), 0);
        Due.same("funcs", x.count(1), 0);
        Due.same("run", x.run(1), -1);
        Due.same("instances", x.instances(), -1);
        Due.same("made", x.made(0) + x.made(1) + x.made(2), -3);
        Due.same("failed", x.failed(), -1);
        Due.same("calls", x.calls(), 0);
        Due.same("print", x.print(0) + x.print(1), -2);
        Due.same("out", x.out(0), -1);
        Due.same("the tape", x.count(4), 0);
        Due.same("isMade", Due.fresh().isMade("A"), -1);
        Due.same("implementing", Due.fresh().implementing("A;A"), -1);
        // each object by itself
        Due.fresh().with(BASE + "main A{};");
        Due.same("another one", new FeatherBench().count(5), 0);
    }

    private static void takesThePlace() {
        Due.says("A PROGRAM without a FAULT takes the place of the one there was, nothing was run of it, no instances are made");
        Due d = used();
        d.with("type Z struct{} main Z{};");
        Due.same("types", d.bench.count(0), 1);
        Due.same("funcs", d.bench.count(1), 0);
        Due.same("steps in all", d.bench.count(2), 3);
        Due.same("steps", d.bench.count(3), 0);
        Due.same("calls", d.bench.calls(), 0);
        Due.same("failed", d.bench.failed(), -1);
        Due.same("no value", d.bench.print(1), -1);
        Due.same("made", d.bench.made(0), -1);
        Due.same("isMade", d.isMade("Z"), -3);
        Due.same("its type", d.printed(0), "Z");
        Due.same("types of the other", d.implementing("A;A"), -2);
        Due.same("its own", d.implementing("Z;Z"), 1);
        Due.same("run", d.bench.run(1), 0);
        Due.same("value", d.printed(1), "Z{}");
        // the same one once more is another one
        d.with("type Z struct{} main Z{};");
        Due.same("nothing was run of it", d.bench.print(1), -1);
    }

    /** One with a program, a run, instances and signs in OUT. */
    private static Due used() {
        Due d = Due.fresh().with(BASE + "main C{}.m();");
        Due.same("run", d.bench.run(5), 0);
        Due.same("instances", d.bench.instances(), 1);
        Due.same("print", d.printed(1), "A{}");
        return d;
    }

    private static void elseAllStays() {
        Due.says("Else all stays");
        String p61 = Texts.sized(61);
        for (String text : new String[] {
            "1:type A struct{} main A{}^",
            "2:type Z struct{f ^Y;} main Z{};",
            "3:type Z struct{} type ^Z struct{} main Z{};",
            "4:type Z struct{f ^Z[Z];} main Z{};",
            "5:" + Texts.list(24, "type T# struct{}", " ") + " ^type Z struct{} main Z{};",
            "6:type Z struct{} type Y[a ^Z] struct{} main Z{};",
            "7:type I interface{m()I;} type Y[a I] struct{} type Z struct{f Y[^Z];} main Z{};",
            "8:type ^Z struct{f Z;} main Z{};",
            "9:" + Texts.QP + "type Z struct{f ^" + p61 + ";} main Z{};",
            "2:type Z struct{} func(x Z)m()Z{return ^y} main Z{};",
            "2:type Z struct{} func(x Z)m()Z{return x} main Z{}.m().^n();",
            "7:type Z struct{} type Y struct{} func(x Z)m()Y{return ^x} main Z{};",
            "6:type Z struct{} type I interface{} main ^I{};",
            "4:type Z struct{} main ^Z{Z{}};",
        }) {
            Due d = used();
            String marked = text.substring(2);
            int place = marked.indexOf('^');
            Due.same(marked, d.program(marked.replace("^", "")), text.charAt(0) - '0' + 16 * place);
            stays(marked, d);
        }
    }

    private static void stays(String what, Due d) {
        Due.same(what + " types", d.bench.count(0), 7);
        Due.same(what + " funcs", d.bench.count(1), 1);
        Due.same(what + " steps in all", d.bench.count(2), 3);
        Due.same(what + " steps", d.bench.count(3), 3);
        Due.same(what + " the tape is taken", d.bench.count(4), 0);
        Due.same(what + " a program", d.bench.count(5), 1);
        Due.same(what + " calls", d.bench.calls(), 1);
        Due.same(what + " OUT", d.out(), "A{}");
        Due.same(what + " made", 100 * d.bench.made(0) + 10 * d.bench.made(1) + d.bench.made(2), 211);
        Due.same(what + " isMade", d.isMade("C") * 10 + d.isMade("H"), 10);
        Due.same(what + " value", d.printed(1), "A{}");
        Due.same(what + " type", d.printed(0), "A");
        Due.same(what + " implementing", d.implementing("C;M") * 10 + d.implementing("A;M"), 10);
        Due.same(what + " implementing", d.implementing("Z;Z"), -2);
        Due.same(what + " instances", d.bench.instances(), 1);
        Due.same(what + " run", d.bench.run(3), 0);
        Due.same(what + " run", d.bench.run(2), 2);
    }

    private static void implementingNotTwo() {
        Due.says("-1: it is not two such, or there is no program");
        Due.same("no program", Due.fresh().implementing("A;A"), -1);
        Due.same("no program, no good", Due.fresh().implementing("E;E"), -1);
        Due d = Due.fresh().with(BASE + "main A{};");
        for (String text : new String[] {"", " \n", ";", "A", "A;", ";A", ";;", "A;A;", "A;A;A", "A;;A", "A A;A", "A;A A",
            "A,A", "A.A", "A[;A", "A];A", "Box[A;A", "Box[A;A]", "Box[];A", "Box[A,];A", "Box[,A];A", "Box[A]];A", "Box[[A]];A",
            "Box[A][A];A", "[A];A", "A{};A", "A;A{}", "A();A", "type;A", "A;main", "struct;A", "A;func", "1;A", "A;A1#",
            "A;abcdefghijklm", "abcdefghijklm;A", "A:A", "A;A\n;"}) {
            Due.same(text, d.implementing(text), -1);
        }
        Due.same("two", d.implementing("A;A"), 1);
        Due.same("two", d.implementing("abcdefghijkl;A"), -2);
    }

    private static void implementingIllFormed() {
        Due.says("-2: one of them is not well formed (2, 4, 7, 9)");
        Due d = Due.fresh().with(BASE + "main A{};");
        for (String type : new String[] {"E", "a", "v", "x", "m", "Box[E]", "Box[Box[a]]", "Box", "A[A]", "Box[A,A]", "Box[A,E]",
            "Any[A]", "Box[Box]", "N", "N[A]", "N[Any]", "N[Box[C]]", "Box[N[A]]", "N[N[C]]", "N[C,C]",
            "Box[A,A,A,A,A,A]", "Box[A,A,A,A,A,A,A]"}) {
            Due.same(type + " first", d.implementing(type + ";A"), -2);
            Due.same(type + " second", d.implementing("A;" + type), -2);
            Due.same(type + " both", d.implementing(type + ";" + type), -2);
        }
        for (String type : new String[] {"A", "Any", "M", "Box[A]", "Box[Any]", "N[C]", "N[M]", "Box[N[C]]", "Box[Box[N[M]]]"}) {
            Due.same(type, d.implementing(type + ";Any"), 1);
            Due.same(type + " by itself", d.implementing(type + ";" + type), 1);
        }
    }

    private static void implementingTenWithin() {
        Due.says("or has more than 10 TYPES within one another");
        Due d = Due.fresh().with(BASE + "main A{};");
        for (int more = 7; more <= 12; more++) {
            String type = Texts.nest(more, "Box[", "A", "]");
            boolean fine = more + 1 <= 10;
            Due.same(more + 1 + " first", d.implementing(type + ";Any"), fine ? 1 : -2);
            Due.same(more + 1 + " second", d.implementing("A;" + type), fine ? 0 : -2);
        }
        Due.same("the deepest", d.implementing(Texts.nest(700, "Box[", "A", "]") + ";A"), -2);
    }

    private static void implementingAgain() {
        Due.says("1 if the first IMPLEMENTS the second, else 0");
        // what was asked ahead has no part in it
        Due d = Due.fresh().with(BASE + "main A{};");
        String deep = Texts.nest(10, "Box[", "A", "]") + ";A";
        for (String ahead : new String[] {deep, "E;E", "A;", "", "N[A];A", "A;N[A]", "Box[C];Box[C]", Texts.sized(61) + ";A"}) {
            d.implementing(ahead);
            Due.same("C;M behind " + ahead, d.implementing("C;M"), 1);
            d.implementing(ahead);
            Due.same("A;M behind " + ahead, d.implementing("A;M"), 0);
            d.isMade(ahead);
            Due.same("Box[A];Box[A] behind " + ahead, d.implementing("Box[A];Box[A]"), 1);
        }
    }

    private static void printWhat() {
        Due.says("What 0: main's type, 1: the latest run's value lies in OUT");
        Due d = Due.fresh().with(BASE + "main H{Box[A]{A{}}}.h;");
        Due.same("its type, nothing run", d.printed(0), "Any");
        Due.same("run", d.bench.run(9), 0);
        Due.same("value", d.printed(1), "Box[A]{A{}}");
        Due.same("its type", d.printed(0), "Any");
        for (int what : new int[] {-1, 2, 3, 256, Integer.MIN_VALUE, Integer.MAX_VALUE}) {
            Due.same("print " + what, d.bench.print(what), -1);
            Due.same("OUT stays", d.out(), "Any");
        }
    }

    private static void printNone() {
        Due.says("NONE (OUT stays) if there is none");
        Due d = Due.fresh();
        Due.same("no program", d.bench.print(0), -1);
        Due.same("no program", d.bench.print(1), -1);
        Due.same("OUT", d.out(), "");
        d.with(BASE + "main Box[A]{A{}};");
        Due.same("its type", d.printed(0), "Box[A]");
        Due.same("nothing run", d.bench.print(1), -1);
        Due.same("OUT stays", d.out(), "Box[A]");
        Due.same("spent", d.bench.run(1), 2);
        Due.same("spent", d.bench.print(1), -1);
        Due.same("a value", d.bench.run(2), 0);
        Due.same("refused", d.bench.run(0), -1);
        Due.same("the latest run's", d.printed(1), "Box[A]{A{}}");
        for (String text : new String[] {"1:main H{A{}}.h.(C);", "3:func(x A)m()A{return x.m()} main A{}.m();",
            "4:type P[a Any,b Any] struct{} func(x A)k[p Any]()Any{return x.k[P[p,p]]()} main A{}.k[A]();"}) {
            d.with(BASE + text.substring(2));
            Due.same(text, d.bench.run(5000), text.charAt(0) - '0');
            Due.same(text, d.bench.print(1), -1);
            Due.same("OUT stays", d.out(), "Box[A]{A{}}");
        }
    }

    private static void outStays() {
        Due.says("in place of what was there: how many signs");
        Due d = Due.fresh().with(BASE + "main Box[A]{A{}};");
        Due.same("run", d.bench.run(2), 0);
        Due.same("11 signs", d.bench.print(1), 11);
        Due.same("6 signs", d.bench.print(0), 6);
        Due.same("nothing of the longer one", d.out(), "Box[A]");
        Due.same("behind it", d.bench.out(6), -1);
        d.with(BASE + "main A{};");
        Due.same("another program leaves it", d.out(), "Box[A]");
        d.bench.run(1);
        d.bench.instances();
        d.isMade("A");
        Due.same("so does all else", d.out(), "Box[A]");
    }

    /** A value S{S{..Z{}..}} of that many S: 3 signs each, and those of the inmost one. */
    private static String printed(int structs, String inmost) {
        StringBuilder funcs = new StringBuilder("type N interface{a()N;b()N;c()N;} type W struct{w N;} type S struct{n N;} "
            + "type Z struct{} type Zz struct{} type Zzz struct{} ");
        for (String struct : new String[] {"S", "Z", "Zz", "Zzz"}) {
            funcs.append("func(x ").append(struct).append(")a()N{return S{x}} func(x ").append(struct).append(")b()N{return x")
                .append(".a()".repeat(20)).append("} func(x ").append(struct).append(")c()N{return x")
                .append(".b()".repeat(10)).append("} ");
        }
        Due d = Due.fresh().with(funcs + "main W{" + inmost + "{}" + ".c()".repeat(structs / 200)
            + ".b()".repeat(structs % 200 / 20) + "}.w" + ".a()".repeat(structs % 20) + ";");
        Due.same("run", d.bench.run(5000), 0);
        String whole = Texts.nest(structs, "S{", inmost + "{}", "}");
        int most = Math.min(2000, whole.length());
        Due.same(whole.length() + " signs", d.bench.print(1), most);
        Due.same("the last sign", d.bench.out(most - 1), whole.charAt(most - 1));
        Due.same("no sign", d.bench.out(most), -1);
        Due.same("the first ones", d.out(), whole.substring(0, most));
        return whole;
    }

    private static void twoThousandSigns() {
        Due.says("no more than 2,000 signs (the first)");
        Due.same("1,998", printed(665, "Z").length(), 1998);
        Due.same("1,999", printed(665, "Zz").length(), 1999);
        Due.same("2,000", printed(665, "Zzz").length(), 2000);
        Due.same("2,001", printed(666, "Z").length(), 2001);
        Due.same("2,002", printed(666, "Zz").length(), 2002);
        // cut off on the way in
        Due.same("a longer one", printed(1100, "Z").length(), 3303);
    }

    private static void longestType() {
        Due.says("A TYPE: its WORD, TYPES in [ ] with , between; a value: its TYPE, values in { } with , between; no blanks");
        String q = "type Abcdefghij12[a Any] struct{} type Any interface{} type A struct{} ";
        Due d = Due.fresh().with(q + "type N interface{k[p Any]()Any;} type S struct{n N;} func(x S)k[p Any]()Any{return x.n.k[Abcdefghij12[p]]()} "
            + "type E struct{} func(x E)k[p Any]()Any{return Abcdefghij12[p]{}} "
            + "func(x E)up()N{return S{S{S{S{S{S{S{S{S{x}}}}}}}}}} func(x S)up()N{return S{S{S{S{S{S{S{S{S{x}}}}}}}}}} "
            + "type U interface{up()N;} main E{}.up().(U).up().(U).up().(U).up().k[" + Texts.nest(7, "Abcdefghij12[", "A", "]")
            + "]();");
        Due.same("run", d.bench.run(5000), 0);
        Due.same("36 calls told one more each, and the value's own", d.printed(1),
            Texts.nest(7 + 36 + 1, "Abcdefghij12[", "A", "]") + "{}");
        Due e = Due.fresh().with(Texts.QP + "main " + Texts.sized(60).replace(",", " , ").replace("[", " [ ") + "{};");
        Due.same("a type of 60", e.printed(0), Texts.sized(60));
        e.bench.run(1);
        Due.same("its value", e.printed(1), Texts.sized(60) + "{}");
        Due f = Due.fresh().with(Texts.ANY + Texts.A + "type Q[a Any] struct{} type N interface{k[p Any]()Any;} type S struct{n N;} "
            + "func(x S)k[p Any]()Any{return x.n.k[Q[Q[p]]]()} func(x A)k[p Any]()Any{return Q[p]{}} "
            + "func(x A)up()N{return S{S{S{S{S{S{S{S{S{x}}}}}}}}}} func(x S)up()N{return S{S{S{S{S{S{S{S{S{x}}}}}}}}}} "
            + "type U interface{up()N;} main S{S{A{}.up().(U).up().(U).up()}}.k[A]();");
        Due.same("run", f.bench.run(5000), 0);
        Due.same("59 around A", f.printed(1), Texts.nest(59, "Q[", "A", "]") + "{}");
    }

    private static void signsOfOut() {
        Due.says("Sign i of OUT; NONE");
        Due d = Due.fresh().with(BASE + "main Box[A]{A{}};");
        Due.same("nothing printed", d.bench.out(0), -1);
        d.bench.print(0);
        String due = "Box[A]";
        for (int i = 0; i < due.length(); i++) {
            Due.same("sign " + i, d.bench.out(i), due.charAt(i));
        }
        for (int i : new int[] {-1, 6, 7, 2000, 4000, 65536, Integer.MIN_VALUE, Integer.MAX_VALUE}) {
            Due.same("sign " + i, d.bench.out(i), -1);
        }
    }

    private static void countWhat() {
        Due.says("NONE for another what");
        for (Due d : new Due[] {Due.fresh(), used()}) {
            for (int what : new int[] {-1, 6, 7, 256, Integer.MIN_VALUE, Integer.MAX_VALUE}) {
                Due.same("count " + what, d.bench.count(what), -1);
            }
        }
    }

    private static void countsAsTheyGo() {
        Due.says("What 0: types, 1: funcs, 2: STEPS in all, 3: of the latest run, 4: signs on the TAPE, 5: 1 with a program, else 0");
        Due d = Due.fresh();
        counts(d, "000000");
        d.feed("xyz");
        counts(d, "000030");
        d.bench.program();
        counts(d, "000000");
        d.with("type Any interface{} type A struct{} func(x A)m()A{return x} main A{}.m();");
        counts(d, "210001");
        d.bench.run(9);
        counts(d, "212201");
        d.bench.run(1);
        counts(d, "213101");
        d.bench.run(0);
        counts(d, "213101");
        d.feed("type Z");
        counts(d, "213161");
        d.bench.program();
        counts(d, "213101");
        d.with("type Z struct{} main Z{};");
        counts(d, "103001");
    }

    private static void counts(Due d, String due) {
        StringBuilder got = new StringBuilder();
        for (int what = 0; what < 6; what++) {
            got.append(d.bench.count(what));
        }
        Due.same("counts", got.toString(), due);
    }
}
