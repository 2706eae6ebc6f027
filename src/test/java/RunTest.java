/** Promise 6: run, and what statements do. */
public final class RunTest {
    private static final Bench BENCH = new Bench("RunTest");

    public static void main(String[] args) {
        refusals();
        whereItComes();
        shelvesStayWithTrouble();
        assigning();
        branches();
        loops();
        calls();
        raisingAndTrying();
        placesOfTroubles();
        puttingParts();
        BENCH.end();
    }

    private static void refusals() {
        TallySlate x = Bench.loaded("fn k() { say 7; return 1; } fn l(x) { }");
        BENCH.due("run(0, 0, 1)", x.run(0, 0, 1), 10);
        BENCH.due("run(0, 0, 2)", x.run(0, 0, 2), 0);
        String told = Bench.troubles(x);
        long sum = x.sum();
        int[][] wrong = {{1, 0, 9}, {2, 0, 9}, {-1, 0, 9}, {0, 8, 9}, {0, -2, 9}, {0, 0, 0}, {0, 0, -1}, {0, 0, 20001},
            {Integer.MAX_VALUE, 0, 9}, {Integer.MIN_VALUE, 0, 9}, {0, Integer.MAX_VALUE, 9}, {0, Integer.MIN_VALUE, 9},
            {0, 0, Integer.MAX_VALUE}, {0, 0, Integer.MIN_VALUE}};
        for (int[] w : wrong) {
            BENCH.due("run(" + w[0] + ", " + w[1] + ", " + w[2] + ")", x.run(w[0], w[1], w[2]), -1);
        }
        BENCH.due("trouble() stays", Bench.troubles(x), told);
        BENCH.due("OUT stays", Bench.kept(x), "7\n");
        BENCH.due("sum() stays", x.sum(), sum);
        BENCH.due("run(0, 7, 20000)", x.run(0, 7, 20000), 0);
        BENCH.due("run(0, -1, 20000)", x.run(0, -1, 20000), 0);
    }

    private static void whereItComes() {
        TallySlate x = Bench.loaded("fn k() { a = 3; b = [1]; return box(a, b); } fn l() { c = 1; } fn m() { h = 1; return 2; }");
        BENCH.due("run nowhere", x.run(0, -1, 99), 0);
        BENCH.due("a", Bench.form(x, 0), "3");
        BENCH.due("b", Bench.form(x, 1), "[1]");
        BENCH.due("c", Bench.form(x, 2), "bare");
        for (int shelf = 0; shelf < 8; shelf++) {
            x.run(0, shelf, 99);
            BENCH.due("shelf " + shelf, Bench.form(x, shelf), "(3;[1])");
        }
        BENCH.due("without a return", x.run(1, 4, 99), 0);
        BENCH.due("e", Bench.form(x, 4), "0");
        BENCH.due("c", Bench.form(x, 2), "1");
        x.run(2, 7, 99);
        BENCH.due("what it gives comes last", Bench.form(x, 7), "2");
    }

    private static void shelvesStayWithTrouble() {
        TallySlate x = Bench.loaded("fn k() { a = 5; b = 6; c[0] = 9; say a; return [1, [2]]; } "
                + "fn l() { try { a = 5; raise 1; } on z { } }");
        x.set(0, 1);
        x.add(2, 4);
        long sum = x.sum();
        BENCH.due("run with trouble", x.run(0, 3, 99), 3);
        BENCH.due("sum()", x.sum(), sum);
        BENCH.due("a", Bench.form(x, 0), "1");
        BENCH.due("b", Bench.form(x, 1), "bare");
        BENCH.due("c", Bench.form(x, 2), "[4]");
        BENCH.due("d", Bench.form(x, 3), "bare");
        BENCH.due("run without fuel", x.run(0, 3, 3), 10);
        BENCH.due("sum()", x.sum(), sum);
        BENCH.due("a taken trouble", x.run(1, -1, 99), 0);
        BENCH.due("what was put stays", Bench.form(x, 0), "5");
    }

    private static void assigning() {
        BENCH.gives("fn k() { x = [1, 2]; y = x; y[0] = 5; return box(x, y); }", "([1 2];[5 2])");
        BENCH.gives("fn k() { x = [1]; y = box(x); x[0] = 2; return y; }", "([1])");
        BENCH.gives("fn k() { a = 4; l(); return a; } fn l() { a = a + 1; }", "5");
        BENCH.gives("fn k() { x = 4; l(); return x; } fn l() { x = 1; }", "4");
        BENCH.gives("fn k() { k = 4; return k + l(k); } fn l(k) { return k * 10; }", "44");
        BENCH.trouble("fn k() { x = ^y; }", 7);
        BENCH.trouble("fn k() { x = ^a; }", 7);
        BENCH.trouble("fn k() { l(1); l(2); } fn l(x) { if (x == 3) { y = 1; } z = ^y; }", 7);
        BENCH.gives("fn k() { return 1 - 2 - 3; }", "-4");
        BENCH.gives("fn k() { return 2 + 3 * 4 == 14 & 1; }", "1");
        BENCH.gives("fn k() { return 1 | 2 & 4; }", "0");
        BENCH.gives("fn k() { return 100 / 7 / 2 % 4; }", "3");
        BENCH.gives("fn k() { return -2 * -3 + -(1 + 1); }", "4");
        BENCH.gives("fn k() { return -[1, 2][1]; }", "-2");
    }

    private static void branches() {
        String text = "fn k() { if (a) { return 1; } else { return 2; } }";
        TallySlate x = Bench.loaded(text);
        int[][] cases = {{0, 2}, {1, 1}, {-1, 1}, {Integer.MIN_VALUE, 1}, {256, 1}};
        for (int[] c : cases) {
            x.set(0, c[0]);
            x.run(0, 7, 99);
            BENCH.due("if (" + c[0] + ")", x.cell(7, 0, 0), c[1]);
        }
        BENCH.gives("fn k() { if (0) { return 1; } return 3; }", "3");
        BENCH.trouble("fn k() { x = 1; ^if ([1]) { } }", 3);
        BENCH.trouble("fn k() { ^while (box()) { } }", 3);
        BENCH.trouble("fn k() { x = 1; ^while (x) { x = [[]]; } }", 3);
    }

    private static void loops() {
        BENCH.gives("fn k() { x = 5; y = []; while (x) { y = join(y, x); x = x - 1; } return y; }", "[5 4 3 2 1]");
        BENCH.gives("fn k() { y = []; for x in 4 { y = join(y, x); } return y; }", "[0 1 2 3]");
        BENCH.gives("fn k() { y = []; for x in [7, 5] { y = join(y, x); } return y; }", "[7 5]");
        BENCH.gives("fn k() { y = box(); for x in [[7, 5], []] { y = join(y, x); } return y; }", "([7 5];[])");
        BENCH.gives("fn k() { y = box(); for x in box(1, [2], box(3)) { y = join(y, x); } return y; }", "(1;[2];3)");
        BENCH.gives("fn k() { y = box(); for x in box(1, [2], box(3)) { y = join(y, box(x)); } return y; }", "(1;[2];(3))");
        BENCH.gives("fn k() { y = [1, 2]; for x in y { y = [9]; a = x; } return box(a, y); }", "(2;[9])");
        BENCH.gives("fn k() { for x in 3 { x = 9; } return x; }", "9");
        BENCH.gives("fn k() { for x in 3 { } return x; }", "2");
        BENCH.gives("fn k() { for x in 9 { for y in 9 { if (x * y == 42) { return [x, y]; } } } }", "[6 7]");
        BENCH.trouble("fn k() { for x in 0 { } return ^x; }", 7);
        BENCH.trouble("fn k() { x = 1; ^for y in -1 { } }", 1);
        BENCH.trouble("fn k() { ^for a in -2147483647 - 1 { } }", 1);
        BENCH.trouble("fn k() { ^while (1) { } }", 10);
        BENCH.trouble("fn k() { ^for x in 2147483647 { } }", 10);
        BENCH.trouble("fn k() { while (1) { ^y = 1; } }", 10);
    }

    private static void calls() {
        BENCH.gives("fn k() { return l(1, 2, 3, 4); } fn l(x, y, z, q) { return [x, y, z, q]; }", "[1 2 3 4]");
        BENCH.gives("fn k() { return l(5); } fn l(n) { if (n < 2) { return 1; } return n * l(n - 1); }", "120");
        BENCH.gives("fn k() { return l() + 1; } fn l() { for x in 3 { while (1) { return 41; } } }", "42");
        BENCH.gives("fn k() { return l() + 1; } fn l() { try { return 41; } on x { } }", "42");
        BENCH.gives("fn k() { return [l(), l()]; } fn l() { }", "[0 0]");
        BENCH.trouble("fn k() { ^k(); }", 8);
        BENCH.trouble("fn k() { l(); } fn l() { return 1 + ^k(); }", 8);
        BENCH.gives("fn k() { return l(8); } fn l(n) { if (n) { return l(n - 1) + 1; } }", "8");
        BENCH.trouble("fn k() { return l(9); } fn l(n) { if (n) { return ^l(n - 1) + 1; } }", 8);
        BENCH.gives("fn k() { l(8); l(8); return 5; } fn l(n) { if (n) { l(n - 1); } }", "5");
    }

    private static void raisingAndTrying() {
        BENCH.trouble("fn k() { ^raise 5; }", 9);
        BENCH.trouble("fn k() { x = 1; ^raise [5]; }", 3);
        BENCH.gives("fn k() { try { raise -5; } on x { return x; } return 1; }", "-5");
        BENCH.gives("fn k() { try { x = row(-1); } on x { return x; } }", "1");
        BENCH.gives("fn k() { try { x = row(65); } on x { return x; } }", "2");
        BENCH.gives("fn k() { try { x = row(row(1)); } on x { return x; } }", "3");
        BENCH.gives("fn k() { try { x = row(1) + row(2); } on x { return x; } }", "4");
        BENCH.gives("fn k() { try { x = row(1)[1]; } on x { return x; } }", "5");
        BENCH.gives("fn k() { try { x = 1 / 0; } on x { return x; } }", "6");
        BENCH.gives("fn k() { try { x = y; } on x { return x; } }", "7");
        BENCH.gives("fn k() { try { k(); } on x { return x; } }", "0");
        BENCH.gives("fn k() { try { l(); } on x { return x; } } fn l() { l(); }", "8");
        BENCH.gives("fn k() { x = 1; try { x = 2; } on y { x = 3; } return x; }", "2");
        BENCH.gives("fn k() { try { x = 2; a = 3; raise 1; } on y { } return [x, a, y]; }", "[2 3 1]");
        BENCH.gives("fn k() { try { l(4); } on y { return y; } } fn l(n) { if (n == 0) { raise 77; } return [1, l(n - 1)]; }", "77");
        BENCH.gives("fn k() { try { try { raise 1; } on x { raise x + 1; } } on y { return y; } }", "2");
        BENCH.gives("fn k() { try { try { raise 1; } on x { } x = x + 1; raise x; } on y { return y; } }", "2");
        BENCH.gives("fn k() { x = 0; for y in 5 { try { raise y; } on z { x = x + z; } } return x; }", "10");
        BENCH.gives("fn k() { try { for y in 5 { for z in [[3]] { raise y; } } } on z { } return [z, y] + 1; }", "[1 1]");
        BENCH.gives("fn k() { return [1, 2, l(), 3]; } fn l() { try { return [1, 2, 3 / 0]; } on a { return a; } }", "[1 2 6 3]");
        BENCH.gives("fn k() { for y in 3 { try { l(); raise y; } on z { x = y; } } return x; } "
                + "fn l() { try { return 1; } on z { } }", "2");
        BENCH.trouble("fn k() { l(); ^raise 1; } fn l() { try { return 1; } on x { } }", 9);
        BENCH.trouble("fn k() { try { } on x { } ^raise 1; }", 9);
        BENCH.trouble("fn k() { try { raise 1; } on x { ^raise 2; } }", 9);
        BENCH.trouble("fn k() { try { ^while (1) { } } on x { } }", 10);
        BENCH.trouble("fn k() { try { for x in 99 { y = ^row(64); } } on x { } }", 11);
        BENCH.trouble("fn k() { for y in 10 { try { raise 1; } on x { } } z = ^[]; }", 11);
        BENCH.trouble("fn k() { for y in 11 { try { raise 1; } ^on x { } } }", 11);
        BENCH.trouble("fn k() { z = []; for y in 10 { try { try { raise 1; } ^on x { } } on x { } } }", 11);
    }

    private static void placesOfTroubles() {
        BENCH.trouble("fn k() { x = 1 + [1] ^* box(); }", 3);
        BENCH.trouble("fn k() { x = 1 + box() ^* [[1]]; }", 3);
        BENCH.trouble("fn k() { x = ^-box(); }", 3);
        BENCH.trouble("fn k() { x = ^!box(); }", 3);
        BENCH.trouble("fn k() { x = [1, ^[2, [3]]]; }", 3);
        BENCH.trouble("fn k() { x = [1, 2]; x = x[1] + x^[2]; }", 5);
        BENCH.trouble("fn k() { x = 1 + ^sum(box()); }", 3);
        BENCH.trouble("fn k() { ^row(-1); }", 1);
        BENCH.trouble("fn k() { l(2); } fn l(n) { return 1 ^/ (n - 2); }", 6);
        BENCH.trouble("fn k() { x = ^y + z; }", 7);
        BENCH.trouble("fn k() { x = l(^y, 1 / 0); } fn l(x, y) { }", 7);
        BENCH.trouble("fn k() { x = [1 ^/ 0, y]; }", 6);
        BENCH.trouble("fn k() { x = (1 ^/ 0)[y]; }", 6);
    }

    private static void puttingParts() {
        BENCH.gives("fn k() { x = [1, 2, 3]; x[0] = 7; x[2] = -1; return x; }", "[7 2 -1]");
        BENCH.gives("fn k() { x = [[1], [2, 3]]; x[0] = []; return x; }", "{[][2 3]}");
        BENCH.gives("fn k() { x = [[1], [2, 3]]; x[1][0] = 9; return x; }", "{[1][9 3]}");
        BENCH.gives("fn k() { x = box(1, [2]); x[0] = [[3]]; x[1] = box(); return x; }", "({[3]};())");
        BENCH.gives("fn k() { a = [1]; a[0] = 2; return a; }", "[2]");
        BENCH.trouble("fn k() { ^x[0] = 1; }", 7);
        BENCH.trouble("fn k() { ^x[box()] = 1; }", 7);
        BENCH.trouble("fn k() { x[1 ^/ 0] = 1; }", 6);
        BENCH.trouble("fn k() { x[0] = 1 ^/ 0; }", 6);
        BENCH.trouble("fn k() { x[^y][1 / 0] = 1; }", 7);
        BENCH.trouble("fn k() { x[0][1 ^/ 0] = y; }", 6);
        for (String wrong : new String[] {
            "x = 5; x^[0] = 1;", "x = [1]; x^[0] = [1];", "x = [1]; x^[[0]] = 1;", "x = [1]; x^[0] = box();",
            "x = [[1]]; x^[0] = 1;", "x = [[1]]; x^[0] = [[1]];", "x = [[1]]; x^[[0]] = [1];", "x = box(1); x^[[0]] = 1;",
            "x = box(1); x^[box()] = 1;", "x = [1]; x^[0][0] = 1;", "x = box([1]); x^[0][0] = 1;", "x = 1; x^[0][0] = 1;",
            "x = [[1]]; x^[[0]][0] = 1;", "x = [[1]]; x^[0][[0]] = 1;", "x = [[1]]; x^[0][0] = [1];",
            "x = [[1]]; x^[9][9] = [1];", "x = [1]; x^[9] = [1];"}) {
            BENCH.trouble("fn k() { " + wrong + " }", 3);
        }
        for (String wrong : new String[] {
            "x = [1]; x^[1] = 1;", "x = [1]; x^[-1] = 1;", "x = []; x^[0] = 1;", "x = [[1]]; x^[1] = [1];",
            "x = box(); x^[0] = 1;", "x = [[1]]; x^[1][0] = 1;", "x = [[1]]; x^[-1][5] = 1;", "x = [[1]]; x[0]^[1] = 1;",
            "x = [[1]]; x[0]^[-1] = 1;", "x = [[]]; x[0]^[0] = 1;", "x = [1]; x^[2147483647] = 1;"}) {
            BENCH.trouble("fn k() { " + wrong + " }", 5);
        }
        BENCH.trouble("fn k() { x = rows([64, 64, 64, 8]); x^[3] = row(9); }", 2);
        BENCH.gives("fn k() { x = rows([64, 64, 63, 8]); x[3] = row(9); return size(x); }", "4");
        BENCH.trouble("fn k() { x = box(1); y = box(box(box(1))); x[0] = y; x^[0] = x; }", 2);
        BENCH.trouble("fn k() { x = box(grid(3, 64), grid(3, 64), iota(64), iota(64), 1, iota(64)); x^[4] = iota(12); }", 2);
        BENCH.gives("fn k() { x = box(grid(3, 64), grid(3, 64), iota(64), iota(64), 1, 2); x[4] = iota(64); x[5] = iota(11);"
                + " return size(x); }", "6");
        BENCH.trouble("fn k() { x = box(grid(3, 64), grid(3, 64), iota(64), iota(64), 1, 2); x[4] = iota(64); x^[5] = iota(12); }", 2);
    }
}
