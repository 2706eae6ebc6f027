/** README.md: what its examples answer, and how it says that the document was read. */
public final class ReadmeTest {
    public static void main(String[] args) {
        Bench bench = new Bench("ReadmeTest");
        firstExample(bench);
        wrongTexts(bench);
        readings(bench);
        bench.end();
    }

    private static void firstExample(Bench bench) {
        TallySlate slate = new TallySlate();
        bench.due("the first feed", slate.feed(0x666e206d, 0x61696e28, 0x29207b20, 0x73617920, 0x696f7461), 20);
        bench.due("the second feed", slate.feed(0x2833293b, 0x20726574, 0x75726e20, 0x34323b20, 0x7d202020), 40);
        bench.due("load(40)", slate.load(40), 1);
        bench.due("run(0, 2, 1000)", slate.run(0, 2, 1000), 0);
        bench.due("out(0)", slate.out(0), '[');
        bench.due("cell(2, 0, 0)", slate.cell(2, 0, 0), 42);
    }

    private static void wrongTexts(Bench bench) {
        TallySlate slate = Bench.loaded("fn first() { } fn second() { }");
        bench.due("load of a text with a fault", Bench.load(slate, "fn main() { a = ; }"), TallySlate.NONE);
        bench.due("fault(0)", slate.fault(0), 2);
        bench.due("fault(1)", slate.fault(1), 16);
        bench.due("function(1, 2): the text before stays", slate.function(1, 2), 18);
        bench.due("load of a text without", Bench.load(slate, "fn main() { a = [1, 2]; return a[2]; }"), 1);
        bench.due("run(0, 1, 1000)", slate.run(0, 1, 1000), 5);
        bench.due("trouble(1)", slate.trouble(1), 32);
        bench.due("trouble(3)", slate.trouble(3), 4);
        bench.due("kind(0): all shelves are as they were", slate.kind(0), TallySlate.NONE);
    }

    private static void readings(Bench bench) {
        TallySlate long1620 = new TallySlate();
        Bench.feed(long1620, "$".repeat(1620));
        bench.due("load(1620) of no tokens", long1620.load(1620), TallySlate.NONE);
        bench.due("its fault(1)", long1620.fault(1), 1600);

        TallySlate below = Bench.loaded("fn main() { for i in a { } }");
        below.set(0, -1);
        bench.due("for over -1 with fuel for the statement alone", below.run(0, TallySlate.NONE, 1), 1);
        bench.due("its steps", below.trouble(3), 1);

        TallySlate names = Bench.loaded("fn one(x) { return x; } fn main() { a = each(one, []); }");
        bench.due("the variables of a function with each", names.function(1, 1), 0);

        TallySlate deep = Bench.loaded("fn main() { main(); }");
        bench.due("calls without an end", deep.run(0, TallySlate.NONE, 1000), 8);
        bench.due("how many there were at one time", deep.trouble(5), 10);

        TallySlate kinds = Bench.loaded("fn odd(x) { if (x) { raise 7; } return box(); } fn main() { each(odd, [0, 1]); }");
        bench.due("each whose first call gave a pack", kinds.run(1, TallySlate.NONE, 1000), 9);

        TallySlate none = Bench.loaded("fn main() { return [] / 0; }");
        bench.due("[] / 0", none.run(0, 0, 1000), 0);
    }
}
