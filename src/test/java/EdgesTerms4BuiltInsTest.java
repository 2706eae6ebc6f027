/** The edges that part 4 of the document's terms names, sentence by sentence: BUILT-INS. */
public final class EdgesTerms4BuiltInsTest {
    private static final Bench BENCH = new Bench("EdgesTerms4BuiltInsTest");
    private static final String LEAST = "-2147483647 - 1";
    // An INT, a ROW, a TABLE and a PACK, and letters for them.
    private static final String[] THINGS = {"1", "[1]", "[[1]]", "box(1)"};
    private static final String LETTERS = "nrtk";

    public static void main(String[] args) {
        kindsOfOne();
        kindsOfTwo();
        kindIsAheadOfAll();
        rowAndIota();
        pack();
        grid();
        rows();
        box();
        sizeAndWidths();
        kind();
        sum();
        maxAndMin();
        scan();
        sort();
        grade();
        back();
        flat();
        turn();
        group();
        joinOfRows();
        joinOfTables();
        joinOfPacks();
        joinTroubles();
        take();
        takeMore();
        drop();
        cut();
        pick();
        find();
        pad();
        outer();
        same();
        eachOfKinds();
        eachOfNone();
        eachGreat();
        fold();
        BENCH.end();
    }

    private static void worth(String... pairs) {
        for (int i = 0; i < pairs.length; i += 2) {
            BENCH.worth(pairs[i], pairs[i + 1]);
        }
    }

    private static void fails(int kind, String... expressions) {
        for (String expression : expressions) {
            BENCH.fails("^" + expression, kind);
        }
    }

    private static void said(String words) {
        BENCH.sentence("Terms 4", words);
    }

    private static void kindsOfOne() {
        said("(n, m are INTS, r ROWS, t TABLES, k PACKS, x, y as told; KIND for others, ahead of all).");
        String[][] takers = {{"row", "n"}, {"iota", "n"}, {"pack", "n"}, {"rows", "r"}, {"size", "rtk"}, {"widths", "t"}, {"kind", "nrtk"}, {"sum", "nrt"},
            {"max", "rt"}, {"min", "rt"}, {"scan", "rt"}, {"sort", "rt"}, {"grade", "r"}, {"back", "rtk"}, {"flat", "tk"}, {"turn", "t"}, {"group", "r"}};
        for (String[] taker : takers) {
            for (int i = 0; i < 4; i++) {
                takes(taker[0] + "(" + THINGS[i] + ")", taker[1].indexOf(LETTERS.charAt(i)) >= 0);
            }
        }
    }

    private static void kindsOfTwo() {
        said("KIND for others");
        String[][] takers = {{"grid", "nn"}, {"join", "nn nr rn rr tt tr rt kk kn kr kt nk rk tk"}, {"take", "nr nt nk"}, {"drop", "nr nt nk"}, {"cut", "rr"},
            {"pick", "rr tr kr"}, {"find", "rn rr"}, {"pad", "tn"}, {"outer", "rr"}, {"same", "nn nr nt nk rn rr rt rk tn tr tt tk kn kr kt kk"}};
        for (String[] taker : takers) {
            for (int i = 0; i < 4; i++) {
                for (int j = 0; j < 4; j++) {
                    String letters = LETTERS.substring(i, i + 1) + LETTERS.charAt(j);
                    takes(taker[0] + "(" + THINGS[i] + ", " + THINGS[j] + ")", taker[1].contains(letters));
                }
            }
        }
    }

    private static void takes(String call, boolean fits) {
        if (fits) {
            BENCH.gives("fn k() { " + call + "; return 5; }", "5");
        } else {
            BENCH.fails("^" + call, 3);
        }
    }

    private static void kindIsAheadOfAll() {
        said("ahead of all");
        fails(3, "row([65])", "grid(21, box())", "grid([], -1)", "rows([[65]])", "pad([65], 65)", "pad([[1]], [65])", "take(99, 1)", "take([99], [])",
                "cut([], [[1], [2]])", "pick(1, row(21))", "pick([1], 5)", "outer(iota(21), 1)", "outer(1, iota(64))", "find([[1]], 1)", "group([[20]])",
                "flat(box(iota(64), iota(64), box()))", "join([[1]], 1)");
    }

    private static void rowAndIota() {
        said("row(n): n 0s: GREAT above 64, SIZE. iota(n): 0 to n - 1, likewise.");
        worth("row(0)", "[]", "row(1)", "[0]", "row(3)", "[0 0 0]", "size(row(64))", "64", "max(row(64))", "0");
        worth("iota(0)", "[]", "iota(1)", "[0]", "iota(3)", "[0 1 2]", "size(iota(64))", "64", "iota(64)[63]", "63");
        fails(2, "row(65)", "row(2147483647)", "iota(65)", "iota(2147483647)");
        fails(1, "row(-1)", "row(" + LEAST + ")", "iota(-1)", "iota(" + LEAST + ")");
    }

    private static void pack() {
        said("pack(n): n INTS 0: GREAT above 20, SIZE.");
        worth("pack(0)", "()", "pack(1)", "(0)", "pack(2)", "(0;0)", "size(pack(20))", "20");
        fails(2, "pack(21)", "pack(2147483647)");
        fails(1, "pack(-1)", "pack(" + LEAST + ")");
    }

    private static void grid() {
        said("grid(n, m): n ROWS of m 0s: GREAT if n is above 20, m above 64, or n times m above 200 and neither below 0; then SIZE if one"
                + " is (also of 0 ROWS).");
        worth("grid(0, 0)", "{}", "grid(0, 64)", "{}", "size(grid(20, 0))", "20", "grid(2, 1)", "{[0][0]}", "size(grid(20, 10))", "20",
                "widths(grid(3, 64))", "[64 64 64]", "size(grid(4, 50))", "4");
        fails(2, "grid(21, 0)", "grid(0, 65)", "grid(20, 11)", "grid(4, 51)", "grid(21, -1)", "grid(-1, 65)", "grid(65536, 65536)",
                "grid(2147483647, " + LEAST + ")", "grid(2, 2147483647)");
        fails(1, "grid(-1, 0)", "grid(0, -1)", "grid(-1, -1)", "grid(-20, -11)", "grid(-201, -1)", "grid(20, -64)", "grid(-20, 64)",
                "grid(" + LEAST + ", " + LEAST + ")", "grid(" + LEAST + ", 64)", "grid(0, " + LEAST + ")");
    }

    private static void rows() {
        said("rows(r): a TABLE whose ROWS have so many 0s: GREAT if r's SIZE is above 20, one of them above 64, or the sum of those above 0"
                + " above 200; then SIZE.");
        worth("rows([])", "{}", "rows([0])", "{[]}", "rows([2, 0, 1])", "{[0 0][][0]}", "size(rows(row(20)))", "20", "widths(rows([64]))", "[64]",
                "sum(widths(rows([64, 64, 64, 8])))", "200");
        fails(2, "rows(row(21))", "rows(row(21) - 1)", "rows([65])", "rows([65, -1])", "rows([-1, 65])", "rows([64, 64, 64, 9])",
                "rows([64, 64, 64, 9, -9])", "rows([2147483647, 2147483647, 2])", "rows([2147483647, " + LEAST + "])");
        fails(1, "rows([-1])", "rows([64, -1])", "rows([64, 64, 64, 8, -1])", "rows([" + LEAST + ", 64])");
    }

    private static void box() {
        said("box(..): 0 to 6 E: a PACK of them: GREAT.");
        worth("box()", "()", "box(1)", "(1)", "box(1, [], rows([]), box(), 2, 3)", "(1;[];{};();2;3)");
        fails(2, "box(box(box(box(box()))))", "box(join(box(iota(64))[row(9)], iota(13)))");
        BENCH.fault("fn k() { box(1, 2, 3, 4, 5, 6); }", 0);
        BENCH.fault("fn k() { box(1, 2, 3, 4, 5, 6^, 7); }", 5);
    }

    private static void sizeAndWidths() {
        said("size(x) of r, t, k. widths(t): the ROW of its SIZES.");
        worth("size([])", "0", "size(iota(64))", "64", "size(rows([]))", "0", "size(grid(20, 10))", "20", "size(box())", "0", "size(pack(20))", "20");
        worth("widths(rows([]))", "[]", "widths([[]])", "[0]", "widths(rows([0, 64, 1]))", "[0 64 1]", "size(widths(grid(20, 0)))", "20");
        fails(3, "size(0)");
    }

    private static void kind() {
        said("kind(x): 0 INT, 1 ROW, 2 TABLE, 3 PACK.");
        worth("kind(-1)", "0", "kind([])", "1", "kind(rows([]))", "2", "kind(box())", "3");
    }

    private static void sum() {
        said("sum(x): n itself; of r its INTS; of t the ROW of that of each.");
        worth("sum(" + LEAST + ")", "-2147483648", "sum([])", "0", "sum([5])", "5", "sum([2147483647, 1])", "-2147483648", "sum(rows([]))", "[]",
                "sum([[], [1, 2]])", "[0 3]");
    }

    private static void maxAndMin() {
        said("max(x), min(x): of r, PLACE if it has none; of t the ROW of that of each (PLACE if one has none).");
        worth("max([-5])", "-5", "min([5])", "5", "max([" + LEAST + ", 2147483647, 0])", "2147483647", "min([0, 2147483647, " + LEAST + "])", "-2147483648",
                "max([-3, -2])", "-2", "min([3, 2])", "2", "max(rows([]))", "[]", "min(rows([]))", "[]", "max([[1, 2], [-5]])", "[2 -5]",
                "min([[1, 2], [5]])", "[1 5]");
        fails(5, "max([])", "min([])", "max([[]])", "min([[]])", "max([[1], []])", "max([[], [1]])", "min([[1], []])", "min([[], [1]])");
    }

    private static void scan() {
        said("scan(x): of r: INT i the sum of 0 to i; of t each.");
        worth("scan([])", "[]", "scan([5])", "[5]", "scan([1, 2, 3])", "[1 3 6]", "scan([2147483647, 1])", "[2147483647 -2147483648]", "scan(rows([]))", "{}",
                "scan([[], [1, 2], [3, 4]])", "{[][1 3][3 7]}", "scan(row(64) + 1)[63]", "64");
    }

    private static void sort() {
        said("sort(x): r rising; t: each.");
        worth("sort([])", "[]", "sort([5])", "[5]", "sort([3, -1, 3, 0])", "[-1 0 3 3]", "sort([2147483647, " + LEAST + ", 0])", "[-2147483648 0 2147483647]",
                "sort(rows([]))", "{}", "sort([[2, 1], [], [9, -9]])", "{[1 2][][-9 9]}", "same(sort(back(iota(64))), iota(64))", "1");
    }

    private static void grade() {
        said("grade(r): its PLACES, by rising INTS, like ones by PLACE.");
        worth("grade([])", "[]", "grade([7])", "[0]", "grade([5, 5, 5])", "[0 1 2]", "grade([3, 1, 3, 1, 2])", "[1 3 4 0 2]",
                "grade([2147483647, " + LEAST + "])", "[1 0]", "same(grade(row(64)), iota(64))", "1", "same(grade(back(iota(64))), back(iota(64)))", "1");
    }

    private static void back() {
        said("back(x): r, t, k from the last one to the first one.");
        worth("back([])", "[]", "back([5])", "[5]", "back([1, 2, 3])", "[3 2 1]", "back(rows([]))", "{}", "back([[1, 2], []])", "{[][1 2]}",
                "back(box())", "()",
                "back(box(1, [2, 3]))", "([2 3];1)");
    }

    private static void flat() {
        said("flat(x): of t all INTS, ROW by ROW; of k, that has INTS and ROWS alone (KIND): likewise; GREAT above 64.");
        worth("flat(rows([]))", "[]", "flat([[], []])", "[]", "flat([[1, 2], [], [3]])", "[1 2 3]", "flat(box())", "[]",
                "flat(box(1, [], [2, 3], 4))", "[1 2 3 4]",
                "size(flat(grid(4, 16)))", "64", "size(flat(box(iota(63), 1)))", "64");
        fails(2, "flat(grid(5, 13))", "flat([iota(64), [1]])", "flat(box(iota(64), 1))", "flat(box(1, iota(64)))");
        fails(3, "flat(box([[]]))", "flat(box(box()))", "flat(box(1, rows([])))", "flat(box(iota(64), 1, box()))", "flat(box(rows([]), iota(64), 1))");
    }

    private static void turn() {
        said("turn(t): ROW i has the INTS at PLACE i of all ROWS that have one, in order; as many ROWS as the greatest SIZE: GREAT above 20.");
        worth("turn(rows([]))", "{}", "turn([[], []])", "{}", "turn([[1, 2, 3], [], [4], [5, 6]])", "{[1 4 5][2 6][3]}", "turn([[], [1, 2]])", "{[1][2]}",
                "size(turn([iota(20)]))", "20", "size(turn(grid(10, 20)))", "20", "turn(grid(20, 1))", "{[" + "0 ".repeat(19) + "0]}");
        fails(2, "turn([iota(21)])", "turn([[1], iota(21)])", "turn([iota(64), []])");
    }

    private static void group() {
        said("group(r): ROW i has the PLACES where r has i, for 0 to the greatest one (none without any): GREAT if that is above 19, then"
                + " SIZE if one is below 0.");
        worth("group([])", "{}", "group([0])", "{[0]}", "group([2, 0, 2])", "{[1][][0 2]}", "size(group([19]))", "20", "widths(group(row(64)))", "[64]");
        fails(2, "group([20])", "group([0, 20])", "group([20, -1])", "group([-1, 20])", "group([2147483647])");
        fails(1, "group([-1])", "group([19, -1])", "group([-1, 0])", "group([" + LEAST + "])");
    }

    private static void joinOfRows() {
        said("join(x, y): of n and r, in any way: a ROW of all.");
        worth("join(1, 2)", "[1 2]", "join(1, [2, 3])", "[1 2 3]", "join([1, 2], 3)", "[1 2 3]", "join([1], [2])", "[1 2]", "join([], [])", "[]",
                "join(1, [])", "[1]", "join([], 1)", "[1]");
    }

    private static void joinOfTables() {
        said("Of t and t: a TABLE of all ROWS; t and r, r and t: that ROW one more.");
        worth("join([[1]], [[2], []])", "{[1][2][]}", "join(rows([]), rows([]))", "{}", "join([[1]], [2, 3])", "{[1][2 3]}",
                "join([2, 3], [[1]])", "{[2 3][1]}",
                "join(rows([]), [])", "{[]}", "join([], rows([]))", "{[]}");
    }

    private static void joinOfPacks() {
        said("Of k and k: all THINGS; of k and another, another and k: that one more.");
        worth("join(box(1), box(2, 3))", "(1;2;3)", "join(box(), box())", "()", "join(box(), 1)", "(1)", "join(1, box())", "(1)", "join(box(1), [])", "(1;[])",
                "join([], box(1))", "([];1)", "join(box(), rows([]))", "({})", "join([[1]], box(2))", "({[1]};2)", "join(box(box()), box(box(1)))", "(();(1))");
    }

    private static void joinTroubles() {
        said("that one more. KIND, GREAT.");
        fails(3, "join(1, [[1]])", "join([[1]], 1)", "join(1, rows([]))", "join(grid(20, 0), 1)");
        worth("size(join(iota(63), 1))", "64", "size(join(1, iota(63)))", "64", "size(join(grid(19, 0), []))", "20", "size(join([], grid(19, 0)))", "20",
                "size(join(grid(10, 10), grid(10, 10)))", "20", "size(join(pack(19), 1))", "20", "size(join([], pack(19)))", "20",
                "size(join(pack(10), pack(10)))", "20");
        fails(2, "join(iota(64), 1)", "join(1, iota(64))", "join(iota(32), iota(33))", "join(grid(20, 0), [])", "join([], grid(20, 0))",
                "join(grid(10, 0), grid(11, 0))", "join(grid(20, 10), [[1]])", "join(grid(10, 20), [1])", "join(pack(20), 1)", "join([], pack(20))",
                "join(pack(10), pack(11))");
    }

    private static void take() {
        said("take(n, x): the first n of r, t, k; n below 0: the last -n.");
        worth("take(2, [1, 2, 3])", "[1 2]", "take(-2, [1, 2, 3])", "[2 3]", "take(3, [1, 2, 3])", "[1 2 3]", "take(-3, [1, 2, 3])", "[1 2 3]",
                "take(0, [1])", "[]", "take(0, [[1]])", "{}", "take(0, box(1))", "()", "take(1, [[1], [2]])", "{[1]}", "take(-1, [[1], [2]])", "{[2]}",
                "take(1, box(1, [2]))", "(1)", "take(-1, box(1, [2]))", "([2])");
    }

    private static void takeMore() {
        said("Where there are fewer: 0s, ROWS without INTS, INTS 0 come behind (n below 0: ahead): GREAT if n's size is above 64, 20, 20.");
        worth("take(3, [1])", "[1 0 0]", "take(-3, [1])", "[0 0 1]", "take(2, [])", "[0 0]", "take(-1, [])", "[0]", "take(3, [[1]])", "{[1][][]}",
                "take(-3, [[1]])", "{[][][1]}", "take(1, rows([]))", "{[]}", "take(3, box([1]))", "([1];0;0)", "take(-3, box([1]))", "(0;0;[1])",
                "take(-1, box())", "(0)", "size(take(64, []))", "64", "size(take(-64, [1]))", "64", "size(take(20, rows([])))", "20",
                "size(take(-20, [[1]]))", "20", "size(take(20, box()))", "20", "size(take(-20, box(1)))", "20");
        fails(2, "take(65, [])", "take(-65, iota(64))", "take(21, [[1]])", "take(-21, rows([]))", "take(21, box())", "take(-21, box(1))",
                "take(2147483647, [])", "take(" + LEAST + ", [])", "take(" + LEAST + ", [[1]])", "take(" + LEAST + ", box())");
    }

    private static void drop() {
        said("drop(n, x): r, t, k without the first n; below 0: without the last -n; none where there are no more.");
        worth("drop(1, [1, 2, 3])", "[2 3]", "drop(-1, [1, 2, 3])", "[1 2]", "drop(0, [1])", "[1]", "drop(2, [1, 2])", "[]", "drop(-2, [1, 2])", "[]",
                "drop(3, [1, 2])", "[]", "drop(-3, [1, 2])", "[]", "drop(2147483647, [1])", "[]", "drop(" + LEAST + ", [1])", "[]", "drop(1, [])", "[]",
                "drop(1, [[1], [2]])", "{[2]}", "drop(-1, [[1], [2]])", "{[1]}", "drop(65, [[1]])", "{}", "drop(-65, rows([]))", "{}",
                "drop(1, box(1, [2]))", "([2])", "drop(-1, box(1, [2]))", "(1)", "drop(" + LEAST + ", box(1))", "()", "drop(5, box())", "()");
    }

    private static void cut() {
        said("cut(x, r), x a ROW: stretches of it of so many INTS, in order: GREAT if r's SIZE is above 20; SIZE if one is below 0; UNLIKE"
                + " if their sum (without bound) isn't x's SIZE.");
        worth("cut([1, 2, 3], [1, 2])", "{[1][2 3]}", "cut([], [])", "{}", "cut([], [0])", "{[]}", "cut([1, 2], [0, 2, 0])", "{[][1 2][]}",
                "size(cut(iota(20), row(20) + 1))", "20", "widths(cut(iota(64), [64]))", "[64]", "widths(cut(iota(64), [0, 63, 1]))", "[0 63 1]");
        fails(2, "cut([], row(21))", "cut(iota(21), row(21) + 1)", "cut([], row(21) - 1)", "cut([1], row(21))");
        fails(1, "cut([1], [-1, 2])", "cut([1], [2, -1])", "cut([], [-1])", "cut([1, 2], [5, -1])", "cut([], [" + LEAST + "])");
        fails(4, "cut([1], [])", "cut([], [1])", "cut([1, 2], [1])", "cut([1, 2], [1, 2])", "cut([], [2147483647, 2147483647, 2])",
                "cut([1], [2147483647, 2147483647, 3])");
    }

    private static void pick() {
        said("pick(x, r): those of r, t, k where r isn't 0: UNLIKE if the SIZES are.");
        worth("pick([5, 6, 7], [1, 0, -1])", "[5 7]", "pick([], [])", "[]", "pick([5], [0])", "[]", "pick([5], [" + LEAST + "])", "[5]",
                "pick([[1], []], [0, 1])", "{[]}", "pick(rows([]), [])", "{}", "pick([[1]], [0])", "{}", "pick(box(1, [2]), [0, 256])", "([2])",
                "pick(box(), [])", "()");
        fails(4, "pick([1], [])", "pick([], [0])", "pick([1, 2], [1])", "pick([[1]], [1, 1])", "pick(rows([]), [1])", "pick(box(1), [])", "pick(box(), [0])");
    }

    private static void find() {
        said("find(x, y), x a ROW: the first PLACE of n in it, -1 without; of r the ROW of each of its.");
        worth("find([5, 6, 5], 5)", "0", "find([5, 6, 6], 6)", "1", "find([5, 6], 7)", "-1", "find([], 0)", "-1", "find(iota(64), 63)", "63",
                "find([5, 6], [6, 7, 5, 6])", "[1 -1 0 1]", "find([5], [])", "[]", "find([], [1, 0])", "[-1 -1]", "find([], [])", "[]",
                "find([0, " + LEAST + "], " + LEAST + ")", "1");
    }

    private static void pad() {
        said("pad(t, n): each ROW cut, or with 0s behind, to n: GREAT if n is above 64, or t's SIZE times n above 200; SIZE.");
        worth("pad([[1, 2, 3], [], [4, 5]], 2)", "{[1 2][0 0][4 5]}", "pad([[1]], 0)", "{[]}", "pad(rows([]), 64)", "{}", "pad(rows([]), 0)", "{}",
                "widths(pad([[], [1], []], 64))", "[64 64 64]", "size(pad(grid(20, 0), 10))", "20", "size(pad(grid(4, 0), 50))", "4");
        fails(2, "pad([[1]], 65)", "pad(rows([]), 65)", "pad(grid(20, 0), 11)", "pad(grid(4, 0), 51)", "pad([[1]], 2147483647)", "pad([[1], [2]], 2147483647)");
        fails(1, "pad([[1]], -1)", "pad(rows([]), -1)", "pad(grid(20, 0), -11)", "pad([[1]], " + LEAST + ")", "pad(grid(4, 0), " + LEAST + ")",
                "pad(grid(20, 0), -214748365)");
    }

    private static void outer() {
        said("outer(x, y), ROWS: ROW i is x's INT i times y: GREAT if x's SIZE is above 20, or both's product above 200.");
        worth("outer([], [])", "{}", "outer([], iota(64))", "{}", "outer([1, 2], [])", "{[][]}", "outer([2, -3], [1, 4])", "{[2 8][-3 -12]}",
                "size(outer(iota(20), []))", "20", "size(outer(iota(20), iota(10)))", "20", "size(outer(iota(3), iota(64)))", "3",
                "size(outer(iota(4), iota(50)))", "4");
        fails(2, "outer(iota(21), [])", "outer(iota(21), [1])", "outer(iota(20), iota(11))", "outer(iota(4), iota(51))", "outer(iota(64), iota(64))");
    }

    private static void same() {
        said("same(x, y): 1 if the kinds are the same and all in them is, else 0.");
        String[] different = {"0", "1", "-1", "[]", "[0]", "[1]", "[0, 0]", "rows([])", "[[]]", "[[], []]", "[[0]]", "[[1], []]", "[[], [1]]",
            "box()", "box(0)",
            "box([])", "box(rows([]))", "box(box())", "box([0])", "box(0, 0)", "box([1], 0)", "box(0, [1])", "box(box(0))", "box(box(box(box(1))))",
            "box(box(box(box(2))))", "box(box(box(box([2]))))", "box(box(box(box([3]))))", "box(box(box(box([[1], [2]]))))",
            "box(box(box(box([[1], [3]]))))"};
        for (int i = 0; i < different.length; i++) {
            for (int j = 0; j < different.length; j++) {
                BENCH.worth("same(" + different[i] + ", " + different[j] + ")", i == j ? "1" : "0");
            }
        }
    }

    private static void eachOfKinds() {
        said("each(NAME, x): what the FUNCTION gives of each INT of r, ROW of t, THING of k: of k a PACK; of r and t a ROW if all are INTS,"
                + " a TABLE if all are ROWS, KIND otherwise");
        String functions = " fn like(x) { return x; } fn one(x) { return 1; } fn pair(x) { return [7, 8]; } fn wrap(x) { return box(x); }"
                + " fn table(x) { return [[1]]; } fn odd(x) { if (x) { return [x]; } return x; }";
        String[][] due = {{"like, [5, 6]", "[5 6]"}, {"pair, [5, 6]", "{[7 8][7 8]}"}, {"like, [[5], []]", "{[5][]}"}, {"one, [[5], []]", "[1 1]"},
            {"one, box(5, [])", "(1;1)"}, {"pair, box(5)", "([7 8])"}, {"wrap, box(5, box())", "((5);(()))"}, {"table, box(1)", "({[1]})"},
            {"odd, box(0, 1)", "(0;[1])"}};
        for (String[] d : due) {
            BENCH.gives("fn k() { return each(" + d[0] + "); }" + functions, d[1]);
            BENCH.gives("fn k() { return box(9, each(" + d[0] + "), 9); }" + functions, "(9;" + d[1] + ";9)");
        }
        String[] kinds = {"like, 5", "wrap, [5]", "wrap, [[5]]", "table, [5]", "table, [[5]]", "odd, [0, 1]", "odd, [1, 0]", "odd, [0, 0, 0, 1]",
            "odd, [1, 1, 0]"};
        for (String kind : kinds) {
            BENCH.trouble("fn k() { return ^each(" + kind + "); }" + functions, 3);
        }
    }

    private static void eachOfNone() {
        said("(none: r a ROW, t a TABLE)");
        String functions = " fn one(x) { return 1; } fn pair(x) { return [x, x]; } fn wrap(x) { return box(x); }";
        String[] names = {"one", "pair", "wrap"};
        for (String name : names) {
            BENCH.gives("fn k() { return each(" + name + ", []); }" + functions, "[]");
            BENCH.gives("fn k() { return each(" + name + ", rows([])); }" + functions, "{}");
            BENCH.gives("fn k() { return each(" + name + ", box()); }" + functions, "()");
        }
    }

    private static void eachGreat() {
        said("(none: r a ROW, t a TABLE); GREAT.");
        BENCH.gives("fn k() { return size(each(l, iota(64))); } fn l(x) { return x; }", "64");
        BENCH.gives("fn k() { return size(each(l, iota(20))); } fn l(x) { return []; }", "20");
        BENCH.trouble("fn k() { return ^each(l, iota(21)); } fn l(x) { return []; }", 2);
        BENCH.gives("fn k() { return size(each(l, [[], [], [], []])); } fn l(x) { return iota(50); }", "4");
        BENCH.trouble("fn k() { return ^each(l, [[], [], [], [1]]); } fn l(x) { return iota(50 + size(x)); }", 2);
        BENCH.trouble("fn k() { return ^each(l, iota(21)); } fn l(x) { if (x == 20) { return 1; } return []; }", 3);
        BENCH.gives("fn k() { return each(l, box(box(box()))); } fn l(x) { return box(x); }", "(((())))");
        BENCH.trouble("fn k() { return ^each(l, box(box(box(box())))); } fn l(x) { return box(x); }", 2);
        BENCH.gives("fn k() { a = iota(64); return size(each(l, pack(9))); } fn l(x) { return a; }", "9");
        BENCH.trouble("fn k() { a = iota(64); return ^each(l, pack(10)); } fn l(x) { return a; }", 2);
    }

    private static void fold() {
        said("fold(NAME, x, y): from x on: the FUNCTION of what there is by now and each INT, ROW, THING of y (r, t, k); the last one.");
        String functions = " fn plus(x, y) { return x + y; } fn both(x, y) { return box(x, y); } fn right(x, y) { return y; }";
        String[][] due = {{"plus, 5, []", "5"}, {"plus, box(), rows([])", "()"}, {"plus, [], box()", "[]"}, {"plus, 1, [2, 3]", "6"},
            {"both, 0, [1, 2, 3]", "(((0;1);2);3)"},
            {"right, 0, [[1], [2, 3]]", "[2 3]"}, {"right, 0, box(1, box())", "()"}, {"plus, 1, iota(64)", "2017"}};
        for (String[] d : due) {
            BENCH.gives("fn k() { return fold(" + d[0] + "); }" + functions, d[1]);
        }
        BENCH.gives("fn k() { return 100 - fold(plus, 1, [2, 3]) * 2; }" + functions, "88");
        BENCH.trouble("fn k() { return ^fold(plus, 0, 5); }" + functions, 3);
        BENCH.trouble("fn k() { return ^fold(plus, [], 0); }" + functions, 3);
        BENCH.trouble("fn k() { return fold(l, 0, iota(5)); } fn l(x, y) { return ^box(x); }", 2);
    }
}
