/** Terms 1, the first going through (fault 3): what may be told twice, and what may not. */
public final class NamesEdgeTest {
    private static final String ANY = Texts.ANY;
    private static final String A = Texts.A;
    private static final String MAIN = Texts.MAIN;
    private static final String BOX = ANY + A + "type Box[a Any] struct{v a;} type Two[a Any,b Any] struct{} ";

    public static void main(String[] args) {
        typeNames();
        paramsOfFormals();
        paramsOfFuncs();
        paramsOfItsFunc();
        fields();
        methodsOfAnInterface();
        vars();
        methodsOfAStruct();
        namesOfOtherKinds();
        theFirstFromTheLeft();
        aheadOfTheSecondTime();
        Due.end();
    }

    private static void typeNames() {
        Due.says("3 a type's NAME that is told ahead");
        Due.fault(3, "type A struct{} type ^A struct{}" + MAIN);
        Due.fault(3, "type A struct{} type ^A interface{}" + MAIN);
        Due.fault(3, "type A interface{} type ^A struct{}" + MAIN);
        Due.fault(3, "type B struct{} type A struct{} type C struct{} type ^A struct{}" + MAIN);
        Due.fault(3, "type B struct{} type A struct{} type ^A struct{} type B struct{}" + MAIN);
        Due.fault(3, Texts.list(23, "type T# struct{}", " ") + " type ^T0 struct{}" + MAIN);
        Due.fault(3, Texts.list(23, "type T# struct{}", " ") + " type ^T22 struct{}" + MAIN);
        Due.fine("type A struct{} type a struct{} type AA struct{} type A1 struct{}" + MAIN);
        Due.fault(3, ANY + "type A[a Any] struct{} type ^A struct{}" + MAIN);
    }

    private static void paramsOfFormals() {
        Due.says("a PARAM that is told in these FORMALS .. ahead");
        String six = ANY + A + "type B[p Any,q Any,r Any,s Any,t Any,@ Any] struct{}" + MAIN;
        Due.fine(six.replace("@", "u"));
        Due.fine(six.replace("@", "P"));
        for (String p : new String[] {"p", "q", "r", "s", "t"}) {
            Due.fault(3, six.replace("@", "^" + p));
        }
        Due.fault(3, ANY + A + "type B[a Any,^a Any] interface{}" + MAIN);
        Due.fault(3, ANY + A + "type B interface{m[a Any,^a Any]()A;}" + MAIN);
        Due.fault(3, ANY + A + "type B interface{m()A;n[a Any,b Any,^b Any]()A;}" + MAIN);
        Due.fault(3, ANY + A + "func(x A)m[a Any,b Any,^b Any]()A{return x}" + MAIN);
        // in those of another type, of another METHOD, of the interface around it
        Due.fine(ANY + A + "type B[a Any] struct{} type C[a Any] struct{}" + MAIN);
        Due.fine(ANY + A + "type B interface{m[a Any]()A;n[a Any]()A;}" + MAIN);
        Due.fine(ANY + A + "type B[a Any] interface{m[a Any](x a)a;}" + MAIN);
        Due.fine(ANY + A + "func(x A)m[a Any]()A{return x} func(x A)n[a Any]()A{return x}" + MAIN);
    }

    private static void paramsOfFuncs() {
        Due.says("a PARAM that is told in these .. PARAMS ahead");
        Due.fine(BOX + "func(x Two[c,d])m()A{return A{}}" + MAIN);
        Due.fault(3, BOX + "func(x Two[c,^c])m()A{return A{}}" + MAIN);
        Due.fault(3, BOX + "func(x Two[c,d,e,f,g,^d])m()A{return A{}}" + MAIN);
        Due.fine(BOX + "func(x Two[c,d])m()A{return A{}} func(x Two[d,c])n()A{return A{}}" + MAIN);
        // they need not be called as the type's FORMALS
        Due.fine(BOX + "func(x Two[b,a])m()A{return A{}}" + MAIN);
    }

    private static void paramsOfItsFunc() {
        Due.says("or in PARAMS of its func");
        Due.fault(3, BOX + "func(x Box[c])m[^c Any]()A{return A{}}" + MAIN);
        Due.fault(3, BOX + "func(x Two[c,d])m[e Any,^d Any]()A{return A{}}" + MAIN);
        Due.fault(3, BOX + "func(x Two[c,d])m[^c Any,d Any]()A{return A{}}" + MAIN);
        // those of the type's FORMALS, and those of another func's, are not in the way
        Due.fine(BOX + "func(x Box[c])m[a Any]()A{return A{}}" + MAIN);
        Due.fine(BOX + "func(x Box[c])m[d Any]()A{return A{}} func(x Box[d])n[c Any]()A{return A{}}" + MAIN);
    }

    private static void fields() {
        Due.says("a FIELD .. told ahead in these { }");
        String six = A + "type B struct{f A;g A;h A;i A;j A;@ A;}" + MAIN;
        Due.fine(six.replace("@", "k"));
        for (String f : new String[] {"f", "g", "h", "i", "j"}) {
            Due.fault(3, six.replace("@", "^" + f));
        }
        Due.fault(3, A + "type B struct{f A;^f B;}" + MAIN);
        Due.fine(A + "type B struct{f A;} type C struct{f A;}" + MAIN);
    }

    private static void methodsOfAnInterface() {
        Due.says("a METHOD told ahead in these { }");
        String six = A + "type B interface{f()A;g()A;h()A;i()A;j()A;@()A;}" + MAIN;
        Due.fine(six.replace("@", "k"));
        for (String m : new String[] {"f", "g", "h", "i", "j"}) {
            Due.fault(3, six.replace("@", "^" + m));
        }
        Due.fault(3, ANY + A + "type B interface{m()A;^m[a Any](x A)Any;}" + MAIN);
        Due.fine(A + "type B interface{m()A;} type C interface{m()A;}" + MAIN);
    }

    private static void vars() {
        Due.says("a VAR told ahead in this func");
        String six = A + "func(x A)m(s A,t A,u A,v A,w A,@ A)A{return x}" + MAIN;
        Due.fine(six.replace("@", "y"));
        for (String v : new String[] {"x", "s", "t", "u", "v", "w"}) {
            Due.fault(3, six.replace("@", "^" + v));
        }
        Due.fault(3, A + "func(x A)m(^x A)A{return x}" + MAIN);
        Due.fine(A + "func(x A)m(y A)A{return x} func(x A)n(y A)A{return y} func(y A)k(x A)A{return y}" + MAIN);
        // an interface is no func
        Due.fine(A + "type I interface{m(x A,x A)A;}" + MAIN);
        Due.fine(A + "type I interface{m(x A)A;n(x A)A;}" + MAIN);
    }

    private static void methodsOfAStruct() {
        Due.says("a func's METHOD that another func of that NAME ahead has (at the METHOD)");
        String m = "func(x A)m()A{return x} ";
        Due.fault(3, A + m + "func(x A)^m()A{return x}" + MAIN);
        Due.fault(3, A + m + "func(y A)^m(z A)A{return z}" + MAIN);
        Due.fault(3, A + m + "func(x A)n()A{return x} func(x A)^m()A{return x}" + MAIN);
        Due.fine(A + m + "func(x A)n()A{return x}" + MAIN);
        Due.fine(A + "type B struct{} " + m + "func(x B)m()A{return A{}}" + MAIN);
        Due.fault(3, A + "type B struct{} " + m + "func(x B)m()A{return A{}} func(x B)^m()A{return A{}}" + MAIN);
        Due.fault(3, BOX + "func(x Box[a])m()A{return A{}} func(x Box[b])^m()A{return A{}}" + MAIN);
        String sixty = A + Texts.list(59, "func(x A)m#()A{return x}", " ");
        Due.fault(3, sixty + "func(x A)^m0()A{return x}" + MAIN);
        Due.fault(3, sixty + "func(x A)^m58()A{return x}" + MAIN);
        Due.fine(sixty + "func(x A)m59()A{return x}" + MAIN);
    }

    private static void namesOfOtherKinds() {
        Due.says("(names of other kinds are not in the way)");
        Due.fine("type A struct{A B;} type B struct{} func(A A)A()A{return A} main A{B{}}.A();");
        Due.fine(ANY + A + "type B[A Any] struct{A A;B A;} func(A B[A])B(B A)A{return B}" + MAIN);
        Due.fine(ANY + A + "type B[B Any] interface{B(B B)B;}" + MAIN);
    }

    private static void theFirstFromTheLeft() {
        Due.says("the first token that is wrong");
        Due.fault(3, "type A struct{f A;^f A;} type A struct{} main A{};");
        Due.fault(3, "type A struct{} type ^A struct{f A;f A;} main A{};");
        Due.fault(3, ANY + "type B[a Any,^a Any] struct{f A;f A;} main A{};");
        Due.fault(3, A + "func(x A)m()A{return x} func(x A)^m(x A,x A)A{return x}" + MAIN);
        Due.fault(3, BOX + "func(x Two[a,^a])m()A{return A{}} func(x Two[a,a])m()A{return A{}}" + MAIN);
        Due.fault(3, BOX + "func(x Box[a])m[^a Any](x A)A{return A{}}" + MAIN);
        Due.fault(3, A + "func(x A)m(^x A)A{return x} type A struct{}" + MAIN);
        Due.fault(3, A + "type I interface{m()A;^m()A;} func(x A)m(x A)A{return x}" + MAIN);
        Due.fault(3, ANY + A + "type I interface{m[a Any,^a Any]()A;m()A;}" + MAIN);
    }

    private static void aheadOfTheSecondTime() {
        Due.says("Then it is gone through from the left, four times");
        Due.fault(3, "type A struct{f B;} type ^A struct{}" + MAIN);
        Due.fault(3, "type A struct{f A;} func(x C)m()D{return x} func(x C)^m()D{return y} main z;");
        Due.fault(1, "type A struct{} type A struct{} main A{}^");
        Due.fault(5, "type A struct{" + Texts.list(6, "f A;", "") + "^f A;}" + MAIN);
    }
}
