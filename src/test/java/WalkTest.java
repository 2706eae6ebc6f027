/** Promise 6: each and fold. */
public final class WalkTest {
    private static final Bench BENCH = new Bench("WalkTest");
    private static final String FUNCTIONS = " fn like(x) { return x; } fn dbl(x) { return x * 2; } fn one(x) { return 1; } "
            + "fn wrap(x) { return box(x); } fn pair(x) { return [x, x]; } fn odd(x) { if (x) { return [x]; } return x; } "
            + "fn plus(x, y) { return x + y; } fn both(x, y) { return box(x, y); } fn left(x, y) { return x; }";

    public static void main(String[] args) {
        each();
        eachTroubles();
        fold();
        BENCH.end();
    }

    private static void worth(String expression, String form) {
        BENCH.gives("fn k() { return " + expression + "; }" + FUNCTIONS, form);
    }

    private static void fails(String expression, int kind) {
        BENCH.trouble("fn k() { return " + expression + "; }" + FUNCTIONS, kind);
    }

    private static void each() {
        worth("each(dbl, [1, 2, 3])", "[2 4 6]");
        worth("each(like, [])", "[]");
        worth("each(like, rows([]))", "{}");
        worth("each(one, rows([]))", "{}");
        worth("each(pair, [])", "[]");
        worth("each(like, box())", "()");
        worth("each(dbl, [[1], [2, 3]])", "{[2][4 6]}");
        worth("each(one, [[1], [2, 3]])", "[1 1]");
        worth("each(pair, [1, 2])", "{[1 1][2 2]}");
        worth("each(one, box(1, [2], box()))", "(1;1;1)");
        worth("each(wrap, box(1, [2]))", "((1);([2]))");
        worth("each(odd, box(0, 1))", "(0;[1])");
        worth("size(each(one, iota(64)))", "64");
        worth("each(dbl, [1, 2]) + 1", "[3 5]");
        worth("[1, sum(each(dbl, each(dbl, [1, 2]))), 5]", "[1 12 5]");
        BENCH.gives("fn k() { return each(l, [[1, 2], [3]]); } fn l(x) { return each(m, x); } fn m(x) { return x + 1; }", "{[2 3][4]}");
        BENCH.gives("fn k() { a = 0; each(l, [4, 5]); return a; } fn l(x) { a = a * 10 + x; }", "45");
        BENCH.gives("fn k() { try { each(l, [4, 5, 6]); } on x { } return [a, x]; } fn l(x) { a = x; if (x == 5) { raise 8; } }", "[5 8]");
    }

    private static void eachTroubles() {
        fails("^each(like, 5)", 3);
        fails("^each(odd, [0, 1])", 3);
        fails("^each(odd, [1, 0])", 3);
        fails("^each(wrap, [1])", 3);
        fails("^each(wrap, [[1]])", 3);
        fails("^each(pair, iota(21))", 2);
        fails("^each(wrap, box(box(box(box()))))", 2);
        BENCH.trouble("fn k() { each(l, box(1)); } fn l(x) { return x ^/ 0; }", 6);
        BENCH.trouble("fn k() { each(l, [1]); } fn l(x) { ^each(l, [x]); }", 8);
        BENCH.trouble("fn k() { ^each(l, 1); } fn l(x) { }", 3);
        BENCH.trouble("fn k() { each(l, iota(50)); } fn l(y) { return ^iota(64); }", 11);
        BENCH.trouble("fn k() { x = 0; a = iota(64); ^each(l, pack(10)); } fn l(y) { return a; }", 2);
        BENCH.trouble("fn k() { a = iota(64); each(l, pack(9)); ^each(l, iota(4)); } fn l(y) { return a; }", 2);
        BENCH.trouble("fn k() { ^each(l, [1, 2]); } fn l(x) { if (x == 2) { return []; } }", 3);
    }

    private static void fold() {
        worth("fold(plus, 0, [1, 2, 3])", "6");
        worth("fold(plus, [0, 0], [[1, 2], [3, 4]])", "[4 6]");
        worth("fold(plus, 5, [])", "5");
        worth("fold(plus, box(), rows([]))", "()");
        worth("fold(both, 0, [1, 2])", "((0;1);2)");
        worth("fold(left, [[1]], box(1, [2], box()))", "{[1]}");
        worth("fold(plus, 1, box(2, [3], [[4], [5]]))", "{[10][11]}");
        worth("fold(plus, 1, box(2, 3, fold(plus, 0, [4, 5])))", "15");
        fails("^fold(plus, 0, 5)", 3);
        fails("^fold(plus, [], 5)", 3);
        BENCH.trouble("fn k() { fold(l, 0, [1]); } fn l(x, y) { return x ^+ box(); }", 3);
        BENCH.trouble("fn k() { fold(l, 0, [1]); } fn l(x, y) { ^fold(l, x, [y]); }", 8);
        BENCH.trouble("fn k() { x = fold(l, 0, iota(6)); } fn l(x, y) { return ^box(x); }", 2);
    }
}
