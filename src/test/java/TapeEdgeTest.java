/** Terms 1, the TAPE and its TOKENS: each boundary that a sentence names, on both sides of it. */
public final class TapeEdgeTest {
    private static final String SMALL = "type A struct{} main A{};";
    private static final String LETTERS = "abcdefghijklmnopqrstuvwxyzABCDEFGHIJKLMNOPQRSTUVWXYZ";
    private static final String DIGITS = "0123456789";
    private static final String SIGNS = "{}()[],;.";

    public static void main(String[] args) {
        mostSigns();
        aLoadOverTheEdge();
        whichSigns();
        everyByteOfALoad();
        readingTakes();
        notReadingLeaves();
        asLongAsCanBe();
        blanks();
        lettersAndDigits();
        twelve();
        thirteen();
        allElseIsNone();
        aFullTapeOfTokens();
        Due.end();
    }

    private static void mostSigns() {
        Due.says("The TAPE has at most 4,000 signs");
        Due d = Due.fresh();
        Due.same("3,999", d.feed(" ".repeat(3999)), 3999);
        Due.same("3,999 and none", d.bench.feed(0, 0, 0), 3999);
        Due.same("one more", d.bench.feed(0, 0, ';'), 4000);
        Due.same("two more", d.bench.feed(0, 0, ';'), 4000);
        Due.same("count", d.bench.count(4), 4000);
        Due.same("the last of the 4,000 is there", d.bench.program(), 1 + 16 * 3999);
        Due.same("what was beyond does not come behind", d.bench.count(4), 0);

        Due.same("the program's last sign is the 4,000th", d.feed(" ".repeat(3975) + SMALL), 4000);
        Due.same("read", d.bench.program(), 0);
        Due.same("its last sign is the 4,001st", d.feed(" ".repeat(3976) + SMALL), 4000);
        Due.same("left out", d.bench.program(), 1 + 16 * 4000);
        Due.same("a wrong sign as the 4,001st", d.feed(SMALL + " ".repeat(3975) + "#"), 4000);
        Due.same("left out", d.bench.program(), 0);
        Due.same("a wrong sign as the 4,000th", d.feed(SMALL + " ".repeat(3974) + "#"), 4000);
        Due.same("read", d.bench.program(), 1 + 16 * 3999);
    }

    private static void aLoadOverTheEdge() {
        Due.says("what is beyond 4,000, are left out");
        for (int room = 0; room <= 25; room++) {
            Due d = Due.fresh();
            d.feed(" ".repeat(4000 - room));
            int most = Math.min(24, room);
            Due.same(room + " left", d.bench.feed(0x3B3B3B3B3B3B3B3BL, 0x3B3B3B3B3B3B3B3BL, 0x3B3B3B3B3B3B3B3BL),
                4000 - room + most);
            Due.same(room + " left: the first is the first that came", d.bench.program(), 1 + 16 * (4000 - room));
        }
        // others than signs take no room
        Due d = Due.fresh();
        d.feed(" ".repeat(3999));
        Due.same("none of these", d.bench.feed(-1L, 0x0102030405060708L, 0x8081828384858687L), 3999);
        Due.same("the last of these", d.bench.feed(-1L, 0x0102030405060708L, 0x8081828384858620L), 4000);
    }

    private static void whichSigns() {
        Due.says("10 and 32 .. 126");
        for (int sign = 0; sign < 256; sign++) {
            FeatherBench x = new FeatherBench();
            int due = sign == 10 || sign >= 32 && sign <= 126 ? 1 : 0;
            Due.same("sign " + sign, x.feed((long) sign << 56, 0, 0), due);
            Due.same("sign " + sign + ", lowest", x.feed(0, sign, 0), 2 * due);
        }
    }

    private static void everyByteOfALoad() {
        Due.says("the bytes of a, b, c, of each the highest first");
        for (int place = 0; place < 24; place++) {
            long[] load = new long[3];
            load[place / 8] = (long) 'x' << 56 - 8 * (place % 8);
            FeatherBench x = new FeatherBench();
            Due.same("byte " + place, x.feed(load[0], load[1], load[2]), 1);
        }
        // 24 signs in their order, then all with gaps between
        Due d = Due.fresh();
        d.bench.feed(0x7479706520412073L, 0x74727563747B7D20L, 0x6D61696E20417B7DL);
        d.bench.feed(0x3B00000000000000L, 0, 0);
        Due.same("the highest byte first", d.bench.program(), 0);
        for (int i = 0; i < SMALL.length(); i++) {
            long sign = (long) SMALL.charAt(i) << 8 * (i % 8);
            Due.same("sign " + i, d.bench.feed(i % 3 == 0 ? sign : 0, i % 3 == 1 ? sign : 0, i % 3 == 2 ? sign : 0),
                i + 1);
        }
        Due.same("with gaps", d.bench.program(), 0);
    }

    private static void readingTakes() {
        Due.says("what reads it takes it: it is empty then");
        Due d = Due.fresh();
        taken("implementing without a program", d, d.implementing("A;A"), -1);
        taken("isMade without a program", d, d.isMade("A"), -1);
        taken("program, read wrongly", d, d.program("type A"), 1 + 16 * 6);
        taken("program, told wrongly", d, d.program("type A struct{f B;} main A{};"), 2 + 16 * 16);
        taken("program, full", d, d.program(" ".repeat(4000)), 1 + 16 * 4000);
        taken("program", d, d.program(SMALL), 0);
        taken("implementing", d, d.implementing("A;A"), 1);
        taken("implementing, no good", d, d.implementing("A;B"), -2);
        taken("implementing, not two", d, d.implementing("A;"), -1);
        taken("implementing, full", d, d.implementing(";".repeat(4000)), -1);
        taken("isMade, none made", d, d.isMade("A"), -3);
        d.bench.instances();
        taken("isMade", d, d.isMade("A"), 1);
        taken("isMade, no good", d, d.isMade("B"), -2);
        taken("isMade, no TYPE", d, d.isMade("A A"), -1);
        // read again it is the empty text
        d.feed(SMALL);
        Due.same("program", d.bench.program(), 0);
        Due.same("program of nothing", d.bench.program(), 1);
        Due.same("implementing of nothing", d.bench.implementing(), -1);
        Due.same("isMade of nothing", d.bench.isMade(), -1);
    }

    private static void taken(String what, Due d, int got, int due) {
        Due.same(what, got, due);
        Due.same(what + ": what is left", d.bench.count(4), 0);
        Due.same(what + ": the next sign", d.bench.feed(0, 0, ' '), 1);
        d.bench.program();
    }

    private static void notReadingLeaves() {
        Due.says("what reads it takes it");
        Due d = Due.fresh().with(SMALL);
        d.feed(SMALL);
        d.bench.run(5);
        d.bench.run(0);
        d.bench.failed();
        d.bench.calls();
        d.bench.instances();
        d.bench.made(0);
        d.bench.print(0);
        d.bench.print(1);
        d.bench.out(0);
        d.bench.count(4);
        Due.same("all is there", d.bench.count(4), SMALL.length());
        Due.same("as it was", d.bench.program(), 0);
    }

    private static void asLongAsCanBe() {
        Due.says("TOKENS, each as long as can be");
        Due.fault(1, "^typeA struct{} main A{};");
        Due.fault(1, "type Astruct^{} main A{};");
        Due.fault(1, "type A struct{} ^mainA{};");
        Due.fault(1, "type A struct{} func(x A)m()A{^returnx} main A{};");
        Due.fault(1, "type A struct{} ^func1(x A)m()A{return x} main A{};");
        Due.fine("type A1b2 struct{} main A1b2{};");
        Due.fault(2, "type A1b2 struct{} main ^A1b{};");
        Due.fine("type A struct{}func(x A)m()A{return x}main A{}.m();");
    }

    private static void blanks() {
        Due.says("blanks (10, 32) between where one likes");
        String[] tokens = {"type", "Any", "interface", "{", "}", "type", "B", "[", "a", "Any", ",", "b", "Any", "]",
            "struct", "{", "f", "a", ";", "}", "func", "(", "x", "B", "[", "c", ",", "d", "]", ")", "m", "[", "e", "Any",
            "]", "(", "y", "e", ",", "z", "d", ")", "Any", "{", "return", "x", ".", "m", "[", "d", "]", "(", "z", ",",
            "z", ")", ".", "(", "Any", ")", "}", "type", "A", "struct", "{", "}", "main", "B", "[", "A", ",", "A", "]",
            "{", "A", "{", "}", "}", ".", "f", ";"};
        for (String blank : new String[] {" ", "\n", "  ", " \n ", "\n\n\n"}) {
            Due.fine(String.join(blank, tokens));
            Due.fine(blank + String.join(blank, tokens) + blank);
        }
        Due.fine(joined(tokens));
        Due.fault(1, "type A ^str uct{} main A{};");
        Due.fault(1, "type A struct{} ^ma\nin A{};");
        // 9 and 13 are no blanks, and no signs at all
        Due.fault(1, "^type\tA struct{} main A{};");
        Due.fine("type A struct{} \t\r main A{};");
    }

    /** The tokens with blanks only where two WORDS meet. */
    private static String joined(String[] tokens) {
        StringBuilder text = new StringBuilder();
        boolean word = false;
        for (String token : tokens) {
            boolean next = LETTERS.indexOf(token.charAt(0)) >= 0;
            text.append(word && next ? " " : "").append(token);
            word = next;
        }
        return text.toString();
    }

    private static void lettersAndDigits() {
        Due.says("a letter a .. z or A .. Z, then letters and digits");
        for (char letter : LETTERS.toCharArray()) {
            Due.fine("type " + letter + " struct{} main " + letter + "{};");
            Due.fine("type A" + letter + " struct{} main A" + letter + "{};");
        }
        for (char digit : DIGITS.toCharArray()) {
            Due.fine("type A" + digit + " struct{} main A" + digit + "{};");
            Due.fault(1, "type ^" + digit + " struct{} main A{};");
            Due.fault(1, "type ^" + digit + "A struct{} main A{};");
        }
        Due.fault(2, "type a struct{} main ^A{};");
    }

    private static void twelve() {
        Due.says("12 at most");
        String w = "Abcdefghij12";
        Due.fine("type " + w + " struct{} main " + w + "{};");
        Due.fine("type interfaceabc struct{} main interfaceabc{};");
        Due.fine("type a12345678901 struct{} main a12345678901{};");
        Due.fine(Texts.ANY + "type B[" + w + " Any] struct{f " + w + ";}" + Texts.A + Texts.MAIN);
        Due.fine("type A struct{" + w + " B;} type B struct{} main A{B{}}." + w + ";");
        Due.fine("type A struct{} func(" + w + " A)m()A{return " + w + "} main A{}.m();");
        Due.fine("type A struct{} func(x A)" + w + "()A{return x} main A{}." + w + "();");
        // the twelfth counts
        Due.fault(2, "type " + w + " struct{} main ^Abcdefghij1{};");
        Due.fault(2, "type " + w + " struct{} main ^Abcdefghij13{};");
    }

    private static void thirteen() {
        Due.says("a longer WORD, too, at its first sign");
        for (String w : new String[] {"Abcdefghij123", "A123456789012", "interfaceabcd", "A".repeat(14), "z".repeat(900)}) {
            Due.fault(1, "type ^" + w + " struct{} main A{};");
            Due.fault(1, Texts.ANY + "type B[^" + w + " Any] struct{} main A{};");
            Due.fault(1, Texts.ANY + "type B[a ^" + w + "] struct{} main A{};");
            Due.fault(1, "type A struct{^" + w + " B;} main A{};");
            Due.fault(1, "type A struct{} func(^" + w + " A)m()A{return x} main A{};");
            Due.fault(1, "type A struct{} func(x A)^" + w + "()A{return x} main A{};");
            Due.fault(1, "type A struct{} main ^" + w + ";");
            Due.fault(1, "type A struct{} main A{}.^" + w + ";");
            Due.fault(1, "^" + w);
        }
    }

    private static void allElseIsNone() {
        Due.says("all else (..) is none");
        for (char sign = 33; sign < 127; sign++) {
            boolean word = LETTERS.indexOf(sign) >= 0 || DIGITS.indexOf(sign) >= 0;
            if (!word && SIGNS.indexOf(sign) < 0) {
                Due.fault(1, "^" + sign);
                Due.fault(1, "type A^" + sign + " struct{} main A{};");
                Due.fault(1, "type A struct{} main A{}^" + sign + ";");
                Due.fault(1, "type A struct{} main A{}; ^" + sign);
                Due.fault(1, "type ^" + sign + "A struct{} main A{};");
                Due.fault(1, "type A^" + sign + "A struct{} main A{};");
            }
        }
    }

    private static void aFullTapeOfTokens() {
        Due.says("The TAPE has at most 4,000 signs");
        // each sign is a token: 4,000 of them, and the end
        Due d = Due.fresh().with("type A struct{} main A{};");
        String deep = "A[".repeat(1332) + "A" + "]".repeat(1332);
        Due.same("3,999 tokens", d.implementing(deep + ";A"), -2);
        Due.same("4,000 tokens", d.implementing(deep + ";A;"), -1);
        Due.same("4,000 tokens", d.implementing("A;" + deep + "]"), -1);
        Due.same("3,998 tokens, and a blank at the end", d.implementing("A;" + deep.replace("A]", "]") + " "), -1);
        Due.same("one wide list", d.isMade("A[" + "A,".repeat(1998) + "A]"), -2);
        Due.same("not closed", d.isMade("A[" + "A,".repeat(1998) + "A,"), -1);
        Due.same("asked as ever", d.implementing("A;A"), 1);
    }
}
