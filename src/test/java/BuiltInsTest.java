/** Promise 6: the built-ins but each and fold. */
public final class BuiltInsTest {
    private static final Bench BENCH = new Bench("BuiltInsTest");

    public static void main(String[] args) {
        newThings();
        tellingThings();
        orders();
        reshaping();
        joining();
        takingAndDropping();
        choosing();
        neighbours();
        depthAndBulk();
        BENCH.end();
    }

    private static void worth(String... pairs) {
        for (int i = 0; i < pairs.length; i += 2) {
            BENCH.worth(pairs[i], pairs[i + 1]);
        }
    }

    private static void fails(int kind, String... expressions) {
        for (String expression : expressions) {
            BENCH.fails("^" + expression, kind);
        }
    }

    private static void newThings() {
        worth("row(0)", "[]", "row(3)", "[0 0 0]", "size(row(64))", "64", "iota(0)", "[]", "iota(4)", "[0 1 2 3]",
                "max(iota(64))", "63", "pack(0)", "()", "pack(2)", "(0;0)", "size(pack(20))", "20");
        fails(2, "row(65)", "iota(65)", "pack(21)", "row(2147483647)");
        fails(1, "row(-1)", "iota(-1)", "pack(-1)", "row(-2147483647 - 1)");
        fails(3, "row([])", "iota([[]])", "pack(box())", "row([65])");
        worth("grid(2, 3)", "{[0 0 0][0 0 0]}", "grid(0, 64)", "{}", "grid(20, 0)", "{[][][][][][][][][][][][][][][][][][][][]}",
                "size(grid(20, 10))", "20", "widths(grid(3, 64))", "[64 64 64]");
        fails(2, "grid(21, 0)", "grid(0, 65)", "grid(20, 11)", "grid(4, 64)", "grid(21, -1)", "grid(-1, 65)",
                "grid(2147483647, 2147483647)");
        fails(1, "grid(-1, 0)", "grid(0, -1)", "grid(-20, -11)", "grid(20, -1)", "grid(-2147483647 - 1, -2147483647)", "grid(-1, 64)");
        fails(3, "grid([], 1)", "grid(1, [])", "grid(21, box())");
        worth("rows([])", "{}", "rows([2, 0, 1])", "{[0 0][][0]}", "sum(widths(rows([64, 64, 64, 8])))", "200", "size(rows(row(20)))", "20");
        fails(2, "rows(row(21))", "rows([65])", "rows([64, 64, 64, 9])", "rows([65, -1])", "rows([64, 64, 64, 9, -9])", "rows(row(21) - 1)",
                "rows([2147483647, 2147483647])");
        fails(1, "rows([-1])", "rows([1, -1])", "rows([-2147483647, 64])");
        fails(3, "rows(1)", "rows([[1]])", "rows(box())");
        worth("box()", "()", "box(1)", "(1)", "box(1, [2], [[3]], box(4), 5, 6)", "(1;[2];{[3]};(4);5;6)");
    }

    private static void tellingThings() {
        worth("size([])", "0", "size([4, 5])", "2", "size([[], []])", "2", "size(box(1, 2, 3))", "3");
        fails(3, "size(5)");
        worth("widths([[1], [], [2, 3]])", "[1 0 2]", "widths(rows([]))", "[]");
        fails(3, "widths([1])", "widths(1)", "widths(box())");
        worth("kind(5)", "0", "kind([])", "1", "kind([[]])", "2", "kind(box())", "3");
        worth("sum(-5)", "-5", "sum([])", "0", "sum([1, 2, 3])", "6", "sum([2147483647, 1])", "-2147483648", "sum([[1, 2], [], [3]])", "[3 0 3]",
                "sum(rows([]))", "[]");
        fails(3, "sum(box())", "sum(box(1))");
        worth("max([3, 9, -1])", "9", "min([3, 9, -1])", "-1", "max([-5])", "-5", "max([[1, 2], [5]])", "[2 5]", "min([[1, 2], [5]])", "[1 5]",
                "max(rows([]))", "[]", "min(rows([]))", "[]");
        fails(5, "max([])", "min([])", "max([[1], []])", "min([[], [1]])");
        fails(3, "max(1)", "min(1)", "max(box(1))", "min(box(1))");
        worth("same(1, 1)", "1", "same(1, 2)", "0", "same(1, [1])", "0", "same([1], [1])", "1", "same([1], [1, 0])", "0", "same([], rows([]))", "0",
                "same([], box())", "0", "same([[1], []], [[1], []])", "1", "same([[1], []], [[], [1]])", "0",
                "same(box(1, [2], box(3)), box(1, [2], box(3)))", "1", "same(box(1, [2], box(3)), box(1, [2], box(4)))", "0",
                "same(box([1]), box([[1]]))", "0", "same(box(), box())", "1", "same(pack(2), box(0, 0))", "1");
    }

    private static void orders() {
        worth("scan([1, 2, 3])", "[1 3 6]", "scan([])", "[]", "scan([2147483647, 1, 1])", "[2147483647 -2147483648 -2147483647]",
                "scan([[1, 1], [], [5, 6]])", "{[1 2][][5 11]}");
        fails(3, "scan(1)", "scan(box())");
        worth("sort([3, -1, 2, -1])", "[-1 -1 2 3]", "sort([])", "[]", "sort([[2, 1], [], [0, -5, 9]])", "{[1 2][][-5 0 9]}",
                "sort([2147483647, -2147483647 - 1, 0])", "[-2147483648 0 2147483647]", "sort(back(iota(64)))[63]", "63");
        fails(3, "sort(1)", "sort(box())");
        worth("grade([3, 1, 2, 1])", "[1 3 2 0]", "grade([])", "[]", "grade([5, 5, 5])", "[0 1 2]", "grade([2147483647, -2147483647])", "[1 0]");
        fails(3, "grade(1)", "grade([[1]])", "grade(box())");
        worth("back([1, 2, 3])", "[3 2 1]", "back([])", "[]", "back([[1], [2, 3]])", "{[2 3][1]}", "back(box(1, [2]))", "([2];1)", "back(box())", "()");
        fails(3, "back(1)");
    }

    private static void reshaping() {
        worth("flat([[1, 2], [], [3]])", "[1 2 3]", "flat(rows([]))", "[]", "flat(box(1, [2, 3], 4))", "[1 2 3 4]", "flat(box())", "[]",
                "size(flat(grid(2, 32)))", "64", "size(flat(box(iota(63), 1)))", "64");
        fails(2, "flat(grid(5, 13))", "flat(box(iota(64), 1))");
        fails(3, "flat(1)", "flat([1])", "flat(box([[1]]))", "flat(box(1, box()))", "flat(box(iota(64), iota(64), box()))");
        worth("turn([[1, 2, 3], [4], [5, 6]])", "{[1 4 5][2 6][3]}", "turn(rows([]))", "{}", "turn([[], []])", "{}", "turn([[], [1, 2]])", "{[1][2]}",
                "size(turn(grid(10, 20)))", "20");
        fails(2, "turn([iota(21)])", "turn([[1], iota(64)])");
        fails(3, "turn(1)", "turn([1])", "turn(box())");
        worth("group([0, 2, 0])", "{[0 2][][1]}", "group([])", "{}", "group([0])", "{[0]}", "size(group([19]))", "20", "size(group(row(64)))", "1");
        fails(2, "group([20])", "group([20, -1])", "group([2147483647])");
        fails(1, "group([-1])", "group([19, -1])");
        fails(3, "group(1)", "group([[1]])", "group(box())");
        worth("pad([[1, 2, 3], [], [4]], 2)", "{[1 2][0 0][4 0]}", "pad([[1]], 0)", "{[]}", "pad(rows([]), 64)", "{}", "pad(rows([]), 0)", "{}",
                "widths(pad([[], [], []], 64))", "[64 64 64]", "size(pad(grid(20, 1), 10))", "20");
        fails(2, "pad([[1]], 65)", "pad(rows([]), 65)", "pad(grid(20, 1), 11)", "pad(grid(4, 1), 51)");
        fails(1, "pad([[1]], -1)", "pad(rows([]), -1)", "pad(grid(20, 1), -2147483647)");
        fails(3, "pad([1], 1)", "pad([[1]], [1])", "pad(box(), 1)", "pad([1], 65)");
        worth("outer([1, 2], [3, 4, 5])", "{[3 4 5][6 8 10]}", "outer([], [1])", "{}", "outer([1], [])", "{[]}", "outer([65536], [65536])", "{[0]}",
                "size(outer(iota(20), iota(10)))", "20", "size(outer([], iota(64)))", "0");
        fails(2, "outer(iota(21), [])", "outer(iota(20), iota(11))", "outer(iota(4), iota(51))");
        fails(3, "outer(1, [1])", "outer([1], 1)", "outer([[1]], [1])", "outer([1], box())", "outer(iota(21), 1)");
    }

    private static void joining() {
        worth("join(1, 2)", "[1 2]", "join(1, [2, 3])", "[1 2 3]", "join([1, 2], 3)", "[1 2 3]", "join([1], [2])", "[1 2]", "join([], [])", "[]",
                "join([[1]], [[2], []])", "{[1][2][]}", "join([[1]], [2])", "{[1][2]}", "join([1], [[2]])", "{[1][2]}", "join(rows([]), [])", "{[]}",
                "join(box(1), box(2, 3))", "(1;2;3)", "join(box(1), 2)", "(1;2)", "join([1], box(2))", "([1];2)", "join([[1]], box())", "({[1]})",
                "join(box(), [[1]])", "({[1]})", "join(box(), box())", "()", "join(box(box(1)), box())", "((1))",
                "size(join(iota(63), 1))", "64", "size(join(iota(32), iota(32)))", "64", "size(join(pack(19), 1))", "20");
        fails(3, "join(1, [[1]])", "join([[1]], 1)");
        fails(2, "join(iota(64), 1)", "join(1, iota(64))", "join(iota(33), iota(32))", "join(grid(20, 0), [])", "join([], grid(20, 0))",
                "join(grid(3, 64), iota(9))", "join(grid(10, 10), grid(11, 0))", "join(grid(2, 60), grid(2, 50))", "join(pack(20), 1)",
                "join([[1]], pack(20))", "join(pack(11), pack(10))");
    }

    private static void takingAndDropping() {
        worth("take(2, [1, 2, 3])", "[1 2]", "take(-2, [1, 2, 3])", "[2 3]", "take(5, [1, 2, 3])", "[1 2 3 0 0]", "take(-5, [1, 2, 3])", "[0 0 1 2 3]",
                "take(0, [1])", "[]", "take(2, [])", "[0 0]", "take(1, [[1], [2]])", "{[1]}", "take(-1, [[1], [2]])", "{[2]}",
                "take(3, [[1]])", "{[1][][]}", "take(-3, [[1]])", "{[][][1]}", "take(2, box(1, [2], 3))", "(1;[2])", "take(3, box([1]))", "([1];0;0)",
                "take(-3, box([1]))", "(0;0;[1])", "size(take(64, []))", "64", "size(take(-64, []))", "64", "size(take(20, rows([])))", "20",
                "size(take(-20, box()))", "20");
        fails(2, "take(65, [])", "take(-65, [])", "take(21, [[1]])", "take(-21, [[1]])", "take(21, box())", "take(-21, box())",
                "take(-2147483647 - 1, [])", "take(2147483647, box())");
        fails(3, "take([1], [1])", "take(1, 1)", "take(99, 1)", "take(box(), box())", "take([[1]], 1)");
        worth("drop(1, [1, 2, 3])", "[2 3]", "drop(-1, [1, 2, 3])", "[1 2]", "drop(0, [1])", "[1]", "drop(9, [1])", "[]", "drop(-9, [1])", "[]",
                "drop(2147483647, [1])", "[]", "drop(-2147483647 - 1, [1])", "[]", "drop(1, [[1], [2]])", "{[2]}", "drop(-1, [[1], [2]])", "{[1]}",
                "drop(3, [[1]])", "{}", "drop(1, box(1, [2]))", "([2])", "drop(-1, box(1, [2]))", "(1)", "drop(-3, box())", "()");
        fails(3, "drop([1], [1])", "drop(1, 1)", "drop(box(), [1])");
        worth("cut([1, 2, 3], [1, 2])", "{[1][2 3]}", "cut([], [])", "{}", "cut([], [0, 0])", "{[][]}", "cut([1, 2, 3], [0, 3, 0])", "{[][1 2 3][]}",
                "size(cut(iota(20), row(20) + 1))", "20");
        fails(2, "cut(iota(21), row(21) + 1)", "cut([], row(21) - 1)", "cut([], row(21))");
        fails(1, "cut([1], [-1, 2])", "cut([1], [-1])", "cut([1, 2], [5, -1])");
        fails(4, "cut([1], [])", "cut([1, 2], [1])", "cut([1], [2])", "cut([], [2147483647, 2147483647, 2])", "cut([], [1])");
        fails(3, "cut(1, [1])", "cut([1], 1)", "cut([[1]], [1])", "cut([1], [[1]])", "cut(box(), [])");
    }

    /** What stands behind a ROW where things are kept is none of its INTS. */
    private static void neighbours() {
        String[][] due = {{"rows(a)", "{[0][0 0]}"}, {"group(a)", "{[][0][1]}"}, {"cut([7, 8, 9], a)", "{[7][8 9]}"}, {"sum(a)", "3"},
            {"max(a)", "2"}, {"min(a)", "1"}, {"scan(a)", "[1 3]"}, {"sort(a)", "[1 2]"}, {"grade(a)", "[0 1]"}, {"find(a, 40)", "-1"},
            {"find(a, -3)", "-1"}, {"find([1], a)", "[0 -1]"}, {"outer(a, a)", "{[1 2][2 4]}"}, {"pick(a, a)", "[1 2]"}, {"[5, 6, 7][a]", "[6 7]"},
            {"take(3, a)", "[1 2 0]"}, {"join(a, a)", "[1 2 1 2]"}, {"-a", "[-1 -2]"}, {"each(l, a)", "[2 3]"}, {"fold(m, 0, a)", "3"}};
        BENCH.gives("fn k() { a = [64, 64, 64, 8]; b = [1]; return widths(rows(a)); }", "[64 64 64 8]");
        BENCH.gives("fn k() { x = iota(20); y = [[1, 2], [3]]; z = []; return turn(y); }", "{[1 3][2]}");
        for (String[] d : due) {
            BENCH.gives("fn k() { a = [1, 2]; b = [-3, 40, -5]; c = [40, -3]; return " + d[0] + "; } fn l(x) { return x + 1; } "
                    + "fn m(x, y) { return x + y; }", d[1]);
        }
    }

    private static void choosing() {
        worth("pick([5, 6, 7], [1, 0, -1])", "[5 7]", "pick([], [])", "[]", "pick([[1], [2]], [0, 1])", "{[2]}", "pick(box(1, [2]), [0, 5])", "([2])",
                "pick([1, 2], [0, 0])", "[]", "pick([[1]], [0])", "{}", "pick(box(1), [0])", "()");
        fails(4, "pick([1], [])", "pick([1], [1, 1])", "pick([[1]], [1, 1])", "pick(box(), [1])");
        fails(3, "pick(1, [1])", "pick([1], 1)", "pick([1], [[1]])", "pick(box(1), box(1))", "pick([1, 2], 1)");
        worth("find([5, 6, 5], 5)", "0", "find([5, 6, 5], 6)", "1", "find([5, 6], 7)", "-1", "find([], 0)", "-1", "find([5, 6, 7], [7, 5, 9])", "[2 0 -1]",
                "find([5], [])", "[]", "find([], [1])", "[-1]");
        fails(3, "find(1, 1)", "find([[1]], [1])", "find([1], [[1]])", "find([1], box())", "find(box(1), 1)");
    }

    private static void depthAndBulk() {
        worth("box(box(box(box())))", "(((())))", "box(box(box(box(1))))", "((((1))))", "box(box(box(box([[1]]))))", "(((({[1]}))))",
                "join(box(), box(box(box(box()))))", "(((())))");
        fails(2, "box(box(box(box(box()))))", "box(1, box(box(box(box(1)))))");
        String great = "box(grid(3, 64), grid(3, 64), iota(64), iota(64), iota(64), ";
        // 196 twice, 65 three times, and the PACK's own 1 are 588.
        BENCH.worth("size(" + great + "iota(11)))", "6");
        BENCH.fails("^" + great + "iota(12))", 2);
        BENCH.fails("^join(" + great + "iota(11)), 0)", 2);
        BENCH.worth("size(join(" + great + "iota(10)), 0))", "7");
        BENCH.fails("^take(7, " + great + "iota(11)))", 2);
        BENCH.worth("size(drop(1, " + great + "iota(11))))", "5");
        BENCH.fails("^box(" + great + "iota(11)))", 2);
        BENCH.worth("size(box(" + great + "iota(10))))", "1");
    }
}
