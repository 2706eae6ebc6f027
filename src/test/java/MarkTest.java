/** Promises 18 and 19: mark and back. */
public final class MarkTest {
    private static final Bench BENCH = new Bench("MarkTest");

    public static void main(String[] args) {
        backWithoutMark();
        asTheyWere();
        theSeventh();
        markBehindBack();
        textsAndOutStay();
        BENCH.end();
    }

    private static void backWithoutMark() {
        TallySlate x = new TallySlate();
        x.set(0, 5);
        BENCH.due("back()", x.back(), false);
        BENCH.due("a", Bench.form(x, 0), "5");
    }

    private static void asTheyWere() {
        TallySlate x = Bench.loaded("fn k() { a = iota(5); b = [[1], []]; c = box(a, b); a[0] = 9; }");
        x.add(0, 1);
        x.set(3, 2);
        long first = x.sum();
        BENCH.due("mark()", x.mark(), 1);
        BENCH.due("sum() stays", x.sum(), first);
        x.run(0, 4, 99);
        long second = x.sum();
        BENCH.due("mark()", x.mark(), 2);
        x.add(0, 77);
        x.clear(1);
        x.set(2, 3);
        BENCH.due("back()", x.back(), true);
        BENCH.due("sum()", x.sum(), second);
        BENCH.due("a", Bench.form(x, 0), "[9 1 2 3 4]");
        BENCH.due("c", Bench.form(x, 2), "([0 1 2 3 4];{[1][]})");
        BENCH.due("back()", x.back(), true);
        BENCH.due("sum()", x.sum(), first);
        BENCH.due("a", Bench.form(x, 0), "[1]");
        BENCH.due("b", Bench.form(x, 1), "bare");
        BENCH.due("d", Bench.form(x, 3), "2");
        BENCH.due("back()", x.back(), false);
        BENCH.due("sum() stays", x.sum(), first);
    }

    private static void theSeventh() {
        TallySlate x = new TallySlate();
        for (int i = 1; i <= 9; i++) {
            x.set(0, i);
            BENCH.due("mark " + i, x.mark(), Math.min(i, 6));
        }
        x.set(0, 100);
        for (int i = 9; i >= 4; i--) {
            BENCH.due("back to " + i, x.back(), true);
            BENCH.due("a", x.cell(0, 0, 0), i);
        }
        BENCH.due("back()", x.back(), false);
        BENCH.due("a", x.cell(0, 0, 0), 4);
    }

    private static void markBehindBack() {
        TallySlate x = new TallySlate();
        for (int i = 0; i < 50; i++) {
            x.set(1, i);
            BENCH.due("mark", x.mark(), 1);
            x.set(1, -1);
            x.add(2, i);
            BENCH.due("mark", x.mark(), 2);
            x.add(2, 5);
            BENCH.due("back", x.back(), true);
            BENCH.due("c", Bench.form(x, 2), "[" + i + "]");
            BENCH.due("back", x.back(), true);
            BENCH.due("b", x.cell(1, 0, 0), i);
            BENCH.due("c", x.kind(2), -1);
        }
    }

    private static void textsAndOutStay() {
        TallySlate x = Bench.loaded("fn k() { say 5; raise 6; }");
        x.mark();
        x.run(0, 0, 9);
        x.back();
        BENCH.due("OUT", Bench.kept(x), "5\n");
        BENCH.due("trouble(2)", x.trouble(2), 6);
        BENCH.due("function(0, 2)", x.function(0, 2), 3);
        x.mark();
        BENCH.due("a run that fails leaves the mark", x.run(0, 0, 9), 9);
        BENCH.due("mark()", x.mark(), 2);
    }
}
