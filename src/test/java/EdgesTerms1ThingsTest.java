/** The edges that part 1 of the document's terms names, sentence by sentence: THINGS, and what is MADE. */
public final class EdgesTerms1ThingsTest {
    private static final Bench BENCH = new Bench("EdgesTerms1ThingsTest");
    private static final int NONE = TallySlate.NONE;
    // A PACK of nine ROWS of 64: its BULK is 586.
    private static final String BULKY = "box(iota(64))[row(9)]";

    public static void main(String[] args) {
        intsWrap();
        rowHas0To64();
        tableHas0To20Rows();
        tableHasAtMost200Ints();
        packHas0To20();
        depthIsAtMost4();
        bulkIsAtMost600();
        bulkOfEmptyOnes();
        placesFrom0();
        thingsNeverChange();
        madeOfEach();
        madeOfWhatIsLike();
        madeByEachAct();
        notMade();
        BENCH.end();
    }

    private static void intsWrap() {
        BENCH.sentence("Terms 1", "An INT has 32 bits (what is worked out wraps).");
        BENCH.worth("2147483647 + 1", "-2147483648");
        BENCH.worth("-2147483647 - 2", "2147483647");
        BENCH.worth("65536 * 32768", "-2147483648");
        BENCH.worth("65536 * 65536", "0");
        BENCH.worth("2147483647 * 2147483647", "1");
        BENCH.worth("-(-2147483647 - 1)", "-2147483648");
        BENCH.worth("[2147483647, 1] + 1", "[-2147483648 2]");
        BENCH.worth("[[2147483647]] * 2", "{[-2]}");
        BENCH.worth("sum([2147483647, 2147483647, 3])", "1");
        BENCH.worth("sum([[2147483647, 1], [-2147483647, -2]])", "[-2147483648 2147483647]");
        BENCH.worth("scan([-2147483647, -2, 1])", "[-2147483647 2147483647 -2147483648]");
        BENCH.worth("outer([65536], [65536, 32768])", "{[0 -2147483648]}");
    }

    private static void rowHas0To64() {
        BENCH.sentence("Terms 1", "A ROW has 0 to 64 INTS.");
        String most = "0,".repeat(63) + "0";
        BENCH.worth("[]", "[]");
        BENCH.worth("size([" + most + "])", "64");
        BENCH.fails("^[" + most + ",0]", 2);
        BENCH.worth("size(join(iota(32), iota(32)))", "64");
        BENCH.fails("^join(iota(32), iota(33))", 2);
        BENCH.fails("^join(iota(64), 0)", 2);
        BENCH.worth("size(join(iota(64), []))", "64");
    }

    private static void tableHas0To20Rows() {
        BENCH.sentence("Terms 1", "A TABLE has 0 to 20 ROWS of any SIZES");
        String most = "[],".repeat(19) + "[]";
        BENCH.worth("rows([])", "{}");
        BENCH.worth("size([" + most + "])", "20");
        BENCH.fails("^[" + most + ",[]]", 2);
        BENCH.worth("widths([iota(64), [], [1]])", "[64 0 1]");
        BENCH.worth("size([[1]][row(20)])", "20");
        BENCH.fails("[[1]]^[row(21)]", 2);
        BENCH.worth("size(join(grid(19, 0), []))", "20");
        BENCH.fails("^join(grid(20, 0), [])", 2);
        BENCH.fails("^join(grid(10, 0), grid(11, 0))", 2);
        BENCH.gives("fn k() { return size(each(l, iota(20))); } fn l(x) { return []; }", "20");
        BENCH.trouble("fn k() { return ^each(l, iota(21)); } fn l(x) { return []; }", 2);
    }

    private static void tableHasAtMost200Ints() {
        BENCH.sentence("Terms 1", "with at most 200 INTS in all.");
        BENCH.worth("sum(widths([iota(64), iota(64), iota(64), iota(8)]))", "200");
        BENCH.fails("^[iota(64), iota(64), iota(64), iota(9)]", 2);
        BENCH.worth("size([iota(10)][row(20)])", "20");
        BENCH.fails("[iota(11)]^[row(20)]", 2);
        BENCH.worth("size(join(grid(3, 64), iota(8)))", "4");
        BENCH.fails("^join(grid(3, 64), iota(9))", 2);
        BENCH.fails("^join(iota(9), grid(3, 64))", 2);
        BENCH.fails("^join(grid(2, 50), [iota(50), iota(51)])", 2);
        BENCH.gives("fn k() { x = rows([64, 64, 63, 8]); x[3] = row(9); return sum(widths(x)); }", "200");
        BENCH.trouble("fn k() { x = rows([64, 64, 64, 8]); x^[3] = row(9); }", 2);
        BENCH.gives("fn k() { return size(each(l, iota(5))); } fn l(x) { return iota(40); }", "5");
        BENCH.trouble("fn k() { return ^each(l, iota(5)); } fn l(x) { return iota(40 + x / 4); }", 2);
    }

    private static void packHas0To20() {
        BENCH.sentence("Terms 1", "A PACK has 0 to 20 THINGS");
        BENCH.worth("box()", "()");
        BENCH.worth("size(join(pack(19), 1))", "20");
        BENCH.fails("^join(pack(20), 1)", 2);
        BENCH.fails("^join(1, pack(20))", 2);
        BENCH.worth("size(join(pack(10), pack(10)))", "20");
        BENCH.fails("^join(pack(10), pack(11))", 2);
        BENCH.worth("size(box(1)[row(20)])", "20");
        BENCH.fails("box(1)^[row(21)]", 2);
    }

    private static void depthIsAtMost4() {
        BENCH.sentence("Terms 1", "the DEPTH of a PACK is 1 more than the greatest of its THINGS (1 without any), of others 0; it is at most 4.");
        String[] innermost = {"", "1", "[1]", "[[1]]", "1, [1], [[1]]"};
        for (String things : innermost) {
            BENCH.worth("kind(box(box(box(box(" + things + ")))))", "3");
            BENCH.fails("^box(box(box(box(box(" + things + ")))))", 2);
        }
        String[] three = {"box(box(box())), 1, box()", "1, box(box(box())), box()", "box(), [1], box(box(box()))"};
        for (String things : three) {
            BENCH.worth("size(box(" + things + "))", "3");
            BENCH.fails("^box(box(" + things + "))", 2);
        }
        BENCH.worth("join(box(), box(box(box(box()))))", "(((())))");
        BENCH.gives("fn k() { x = box(0); x[0] = box(box(box())); return x; }", "(((())))");
        BENCH.trouble("fn k() { x = box(0); x^[0] = box(box(box(box()))); }", 2);
        BENCH.trouble("fn k() { ^each(l, box(box(box(box())))); } fn l(x) { return box(x); }", 2);
    }

    private static void bulkIsAtMost600() {
        BENCH.sentence("Terms 1", "BULK: of an INT 1, of a ROW 1 and its SIZE, of a TABLE 1 and that of its ROWS, of a PACK 1 and that of"
                + " its THINGS: at most 600.");
        String[][] pairs = {
            {"join(" + BULKY + ", iota(12))", "0"},
            {BULKY, "iota(13)"},
            {BULKY, "[iota(12)]"},
            {BULKY, "[iota(5), iota(6)]"},
            {BULKY, "box(box(iota(12)))"},
            {BULKY, "box(pack(13))"},
            {BULKY, "box(box([iota(11)]))"},
            {BULKY, "box(box(box(iota(11))))"}};
        for (String[] pair : pairs) {
            // 600 are not too many, but one INT more is.
            BENCH.worth("kind(join(" + pair[0] + ", " + pair[1] + "))", "3");
            BENCH.fails("^join(join(" + pair[0] + ", " + pair[1] + "), 0)", 2);
        }
        BENCH.worth("size(box(iota(64))[row(9)])", "9");
        BENCH.fails("box(iota(64))^[row(10)]", 2);
        BENCH.fails("^box(join(" + BULKY + ", iota(13)))", 2);
        BENCH.worth("size(box(join(" + BULKY + ", iota(12))))", "1");
        BENCH.fails("^take(11, join(" + BULKY + ", iota(13)))", 2);
        BENCH.worth("size(take(11, join(" + BULKY + ", iota(12))))", "11");
        // How great or small the INTS are does not count.
        BENCH.worth("box([1000, 1], 1000, [[1000], [1000]], box([1000]))", "([1000 1];1000;{[1000][1000]};([1000]))");
        BENCH.fails("^join(join(" + BULKY + ", iota(12)), [-1000, -1000])", 2);
        BENCH.fails("^join(join(" + BULKY + ", iota(12)), [[-1000]])", 2);
    }

    private static void bulkOfEmptyOnes() {
        BENCH.sentence("Terms 1", "of a ROW 1 and its SIZE, of a TABLE 1 and that of its ROWS, of a PACK 1 and that of its THINGS");
        String[] ones = {"0", "[]", "rows([])", "box(box())"};
        for (String one : ones) {
            BENCH.worth("size(join(join(" + BULKY + ", iota(12)), " + one + "))", "11");
            BENCH.fails("^join(join(" + BULKY + ", iota(13)), " + one + ")", 2);
        }
    }

    private static void placesFrom0() {
        BENCH.sentence("Terms 1", "The SIZE is how many INTS, ROWS, THINGS; their PLACES are numbered from 0 on.");
        String[][] things = {{"[5, 6, 7]", "5", "7"}, {"[[5], [6], []]", "[5]", "[]"}, {"box(5, 6, box())", "5", "()"}};
        for (String[] t : things) {
            BENCH.worth("size(" + t[0] + ")", "3");
            BENCH.worth(t[0] + "[0]", t[1]);
            BENCH.worth(t[0] + "[2]", t[2]);
            BENCH.fails(t[0] + "^[3]", 5);
            BENCH.fails(t[0] + "^[-1]", 5);
        }
        BENCH.fails("[]^[0]", 5);
        BENCH.fails("rows([])^[0]", 5);
        BENCH.fails("box()^[0]", 5);
    }

    private static void thingsNeverChange() {
        BENCH.sentence("Terms 1", "THINGS never change: what one has been put into keeps it as it was.");
        BENCH.gives("fn k() { x = [1, 2]; y = x; x[0] = 9; return box(x, y); }", "([9 2];[1 2])");
        BENCH.gives("fn k() { x = [1]; y = box(x); x[0] = 9; return y; }", "([1])");
        BENCH.gives("fn k() { x = [1]; y = [x, x]; x[0] = 9; y[1][0] = 8; return box(x, y); }", "([9];{[1][8]})");
        BENCH.gives("fn k() { x = [[1]]; y = x[0]; x[0][0] = 9; return box(x, y); }", "({[9]};[1])");
        BENCH.gives("fn k() { x = box([1]); y = x[0]; y[0] = 9; return box(x, y); }", "(([1]);[9])");
        BENCH.gives("fn k() { x = box(1); x[0] = x; x[0] = x; return x; }", "(((1)))");
        BENCH.gives("fn k() { x = [1, 2]; for y in x { x[1] = 9; z = y; } return z; }", "2");
        BENCH.gives("fn k() { x = [1]; l(x); return x; } fn l(y) { y[0] = 9; }", "[1]");
        TallySlate x = Bench.loaded("fn k() { a = [1]; b = box(a); a[0] = 9; }");
        x.run(0, NONE, 99);
        x.add(0, 5);
        BENCH.due("a", Bench.form(x, 0), "[9 5]");
        BENCH.due("b", Bench.form(x, 1), "([1])");
    }

    /** The shelves a to d have a ROW of 3, a TABLE of {[1 2][]}, a PACK of ([1 2];{[3]};(4)) and an INT. */
    private static void made(String statements, int due) {
        TallySlate x = Bench.loaded("fn s() { a = [1, 2, 3]; b = [[1, 2], []]; c = box([1, 2], [[3]], box(4)); d = 5; } fn k() { " + statements
                + " } fn like(x) { return x; } fn left(x, y) { return x; } fn right(x, y) { return y; }");
        x.run(0, NONE, 99);
        BENCH.due("run of " + statements, x.run(1, NONE, 99), 0);
        BENCH.due("MADE of " + statements, x.trouble(4), due);
    }

    private static void madeOfEach() {
        BENCH.sentence("Terms 1", "MADE is what a ROW counts: 4 and its SIZE; a TABLE: 4, 4 for each ROW, 1 for each INT; a PACK: 4, 2 for each of its THINGS"
                + " (nothing for what is in those).");
        made("row(0);", 4);
        made("row(64);", 68);
        made("grid(0, 64);", 4);
        made("grid(20, 0);", 84);
        made("grid(20, 10);", 284);
        made("grid(3, 64);", 208);
        made("pack(0);", 4);
        made("pack(20);", 44);
        made("box(a, b, c, d);", 12);
        made("box(c);", 6);
        made("size(a); kind(c); x = 1 + 2; x = -d; same(a, b); sum(a); find(a, 9);", 0);
    }

    private static void madeOfWhatIsLike() {
        BENCH.sentence("Terms 1", "(also if it is like one there was)");
        made("sort(a);", 7);
        made("take(3, a);", 7);
        made("drop(0, b);", 14);
        made("drop(0, c);", 10);
        made("x = a + 0;", 7);
        made("a[0] = 1;", 7);
        made("back(back(a));", 14);
        made("x = b[0]; x = b[0];", 12);
    }

    private static void madeByEachAct() {
        BENCH.sentence("Terms 1", "It is counted each time that an operator, a literal, P[..], a built-in, N[..] = gives one");
        made("x = a * 2;", 7);
        made("x = b * 2;", 14);
        made("x = -a;", 7);
        made("x = !b;", 14);
        made("x = a == a;", 7);
        made("x = [];", 4);
        made("x = [1, 2];", 6);
        made("x = [a, a];", 18);
        made("x = a[0];", 0);
        made("x = b[0];", 6);
        made("x = c[0];", 6);
        made("x = c[1];", 9);
        made("x = c[2];", 6);
        made("x = a[a - 1];", 14);
        made("join(a, a);", 10);
        made("each(like, a);", 7);
        made("each(like, b);", 14);
        made("each(like, c);", 10);
        made("a[2] = 9;", 7);
        made("b[1] = a;", 4 + 8 + 5);
        made("b[0][1] = 7;", 14);
        made("c[0] = c;", 10);
        made("for x in 3 { a[x] = x; }", 21);
    }

    private static void notMade() {
        BENCH.sentence("Terms 1", "not for what names, PARAMETERS, functions and fold give.");
        made("x = a; y = x; b = c; say c; return b;", 0);
        made("like(c); x = like(like(b));", 0);
        made("fold(left, c, a);", 0);
        made("fold(right, 0, b);", 0);
        made("fold(right, a, c);", 0);
        made("for x in b { y = x; } for x in c { y = x; }", 0);
        made("if (d) { x = a; } try { x = b; } on y { }", 0);
    }
}
