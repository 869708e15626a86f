/** Promises 1, 2, 13: a new object, the tape, and what is counted. */
public final class TapeTest {
    private static final String SMALL = "type A struct{} main A{};";

    public static void main(String[] args) {
        newObject();
        feeding();
        fullTape();
        whatReadsTakes();
        counting();
        Due.end();
    }

    private static void newObject() {
        FeatherBench x = new FeatherBench();
        Due.same("implementing", x.implementing(), -1);
        Due.same("run", x.run(10), -1);
        Due.same("failed", x.failed(), -1);
        Due.same("calls", x.calls(), 0);
        Due.same("instances", x.instances(), -1);
        Due.same("made", x.made(0), -1);
        Due.same("isMade", x.isMade(), -1);
        Due.same("print 0", x.print(0), -1);
        Due.same("print 1", x.print(1), -1);
        Due.same("out", x.out(0), -1);
        for (int what = 0; what <= 5; what++) {
            Due.same("count " + what, x.count(what), 0);
        }
        Due.same("program of nothing", x.program(), 1);
    }

    private static void feeding() {
        FeatherBench x = new FeatherBench();
        Due.same("nothing", x.feed(0, 0, 0), 0);
        Due.same("one", x.feed(0, 'A', 0), 1);
        Due.same("edges of signs", x.feed(0x0A201F7E7F800BFFL, -1L, Long.MIN_VALUE), 4);
        Due.same("a full load", x.feed(0x2020202020202020L, 0x2020202020202020L, 0x2020202020202020L), 28);
        Due.same("count 4", x.count(4), 28);
        Due.same("A, a blank line, ~: the ~ is none", x.program(), 1);

        // a, b, c in this order, the highest byte first
        FeatherBench y = new FeatherBench();
        y.feed(0x7479706520412073L, 0x74727563747B7D20L, 0x6D61696E20417B7DL);
        y.feed(0, 0, ';');
        Due.same("type A struct{} main A{};", y.program(), 0);
    }

    private static void fullTape() {
        Due d = Due.fresh();
        Due.same("3,975", d.feed(" ".repeat(3975)), 3975);
        Due.same("up to 4,000", d.feed(SMALL), 4000);
        Due.same("beyond", d.bench.feed('x', 'y', 'z'), 4000);
        Due.same("the first 4,000 are there", d.bench.program(), 0);
        Due.same("empty", d.bench.count(4), 0);
        Due.same("cut off", d.feed(" ".repeat(3976) + SMALL), 4000);
        Due.same("the ; is left out", d.bench.program(), 1 + 16 * 4000);
    }

    private static void whatReadsTakes() {
        Due d = Due.fresh();
        Due.same("no program", d.implementing("A;A"), -1);
        Due.same("taken", d.bench.count(4), 0);
        Due.same("fault", d.program("main"), 1 + 16 * 4);
        Due.same("taken", d.bench.count(4), 0);
        d.with(SMALL);
        Due.same("not made", d.isMade("A"), -3);
        Due.same("taken", d.bench.count(4), 0);
        d.feed(SMALL);
        d.bench.run(5);
        d.bench.print(0);
        d.bench.instances();
        Due.same("what does not read it leaves it", d.bench.count(4), SMALL.length());
    }

    private static void counting() {
        Due d = Due.fresh().with(
            "type A struct{} type I interface{} func(x A)m()A{return x} main A{}.m().m();");
        Due.same("types", d.bench.count(0), 2);
        Due.same("funcs", d.bench.count(1), 1);
        Due.same("a program", d.bench.count(5), 1);
        Due.same("run", d.bench.run(5000), 0);
        Due.same("run", d.bench.run(2), 2);
        Due.same("steps in all", d.bench.count(2), 5);
        Due.same("of the latest", d.bench.count(3), 2);
        Due.same("another what", d.bench.count(-1), -1);
        Due.same("another what", d.bench.count(6), -1);
        Due.same("another what", d.bench.count(Integer.MIN_VALUE), -1);
        Due.same("a fault", d.program("type"), 1 + 16 * 4);
        Due.same("all stays", d.bench.count(0), 2);
        Due.same("all stays", d.bench.count(3), 2);
        d.with(SMALL);
        Due.same("another program", d.bench.count(0), 1);
        Due.same("no funcs", d.bench.count(1), 0);
        Due.same("steps in all stay", d.bench.count(2), 5);
        Due.same("nothing was run of it", d.bench.count(3), 0);
        Due.same("no calls", d.bench.calls(), 0);
    }
}
