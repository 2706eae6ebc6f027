/** No call ever throws or fails to end, whatever its arguments are, in whatever state; refused calls change nothing. */
public final class SturdyTest {
    private static final Bench BENCH = new Bench("SturdyTest");
    private static final int[] ODD = {Integer.MIN_VALUE, -65, -2, -1, 0, 1, 2, 3, 7, 8, 20, 64, 600, 1600, 20000, Integer.MAX_VALUE};
    private static final String[] PIECES = {"fn ", "k", "(", ")", "{", "}", "[", "]", ";", ",", "=", "==", "<", "+", "-", "*", "/", "%", "!", "x ",
        "a ", "b ", "1", "0", "64", "2147483647", "if (", "while (", "for x in ", "say ", "return ", "raise ", "try {", "} on x {", "row(", "box(",
        "each(k, ", "fold(k, ", "join(", "# \n", " ", "k()", "iota(20)", "grid(2, 3)", "fn k() {", "x = ", "; }"};
    private static long seed = 20261116;

    public static void main(String[] args) {
        for (int i = 0; i < 200; i++) {
            manyCalls(false);
            manyCalls(true);
        }
        deepAndLong();
        BENCH.end();
    }

    /** Numbers that are the same in every run of the test. */
    private static int next(int below) {
        seed = seed * 6364136223846793005L + 1442695040888963407L;
        return (int) ((seed >>> 33) % below);
    }

    private static int odd() {
        return ODD[next(ODD.length)];
    }

    private static void manyCalls(boolean texts) {
        TallySlate x = Bench.loaded("fn k() { a = [1]; b = [[2], []]; c = box(a, b); return l(c); } fn l(x) { return size(x); } "
                + "fn m() { for d in a { raise d; } } fn n() { while (1) { x = join(g, 1); g = x; } }");
        String last = "";
        try {
            for (int i = 0; i < 120; i++) {
                int which = next(21);
                last = "call " + which;
                if (texts && next(20) == 0) {
                    loadPieces(x);
                }
                one(x, which);
            }
        } catch (RuntimeException e) {
            BENCH.due(last, e.toString(), "no exception");
        }
        BENCH.due("all calls ended", true, true);
    }

    private static void loadPieces(TallySlate x) {
        StringBuilder text = new StringBuilder("fn k() { ");
        int count = next(30);
        for (int i = 0; i < count; i++) {
            text.append(PIECES[next(PIECES.length)]);
        }
        Bench.load(x, text + "}");
    }

    private static void one(TallySlate x, int which) {
        long sum = x.sum();
        boolean changed = true;
        switch (which) {
            case 0: x.feed(odd(), odd(), odd(), odd(), odd()); changed = false; break;
            case 1: x.load(odd()); changed = false; break;
            case 2: x.fault(odd()); changed = false; break;
            case 3: x.function(odd(), odd()); changed = false; break;
            case 4: changed = x.run(next(4), next(10) - 1, 1 + next(3000)) == 0; break;
            case 5: changed = x.run(odd(), odd(), odd()) == 0; break;
            case 6: x.trouble(odd()); changed = false; break;
            case 7: x.out(odd()); changed = false; break;
            case 8: x.outs(); changed = false; break;
            case 9: x.show(odd()); changed = false; break;
            case 10: changed = x.set(odd(), odd()); break;
            case 11: changed = x.add(odd(), odd()); break;
            case 12: changed = x.clear(odd()); break;
            case 13: x.kind(odd()); changed = false; break;
            case 14: x.size(odd(), odd()); changed = false; break;
            case 15: x.cell(odd(), odd(), odd()); changed = false; break;
            case 16: x.same(odd(), odd()); changed = false; break;
            case 17: x.mark(); changed = false; break;
            case 18: changed = x.back(); break;
            case 19: x.size(next(8), next(5) - 1); changed = false; break;
            default: x.cell(next(8), next(5) - 1, next(5) - 1); changed = false;
        }
        if (!changed) {
            BENCH.due("sum() behind call " + which, x.sum(), sum);
        }
    }

    private static void deepAndLong() {
        // Ten calls, in each of them six tries, each with a list that is half done.
        StringBuilder text = new StringBuilder("fn k() { return l(8); } fn l(n) { ");
        text.append("try { ".repeat(6)).append("if (n) { return box(1, 2, 3, 4, 5, l(n - 1)); } return row(-1); ");
        text.append("} on x { } ".repeat(6)).append("return x; }");
        TallySlate x = Bench.loaded(text.toString());
        BENCH.due("fault(0)", x.fault(0), 0);
        BENCH.due("run", x.run(0, 0, 20000), 0);
        BENCH.due("depth ends it", Bench.troubles(x).startsWith("0 -1 0"), true);
        StringBuilder list = new StringBuilder("fn k() { try { x = [");
        list.append("1,".repeat(770)).append("1]; } on x { } return x; }");
        x = Bench.loaded(list.toString());
        BENCH.due("run", x.run(0, 0, 20000), 0);
        BENCH.due("a long literal", Bench.form(x, 0), "2");
        x = Bench.loaded("fn k() { a = box(iota(64), grid(3, 64)); while (1) { say a; } }");
        for (int i = 0; i < 20; i++) {
            BENCH.due("run", x.run(0, 0, 20000), 10);
        }
    }
}
