/** The edges that part 3 of the document's terms names, sentence by sentence: SIGNS, LITERALS, P[E]. */
public final class EdgesTerms3SignsTest {
    private static final Bench BENCH = new Bench("EdgesTerms3SignsTest");
    private static final String[] SIGNS = {"+", "-", "*", "/", "%", "&", "|", "==", "!=", "<", "<=", ">", ">="};
    private static final String LEAST = "(-2147483647 - 1)";

    public static void main(String[] args) {
        intWithInt();
        dividing();
        bits();
        comparing();
        ofOne();
        intWithRowOrTable();
        twoRows();
        rowAndTable();
        twoTables();
        packs();
        theOrder();
        theLeastOne();
        literals();
        literalsThatAreTooGreat();
        placesOfOne();
        placesOfARow();
        troublesOfPlaces();
        BENCH.end();
    }

    private static void intWithInt() {
        BENCH.sentence("Terms 3", "SIGNS of two INTS, or each INT with the one at its PLACE");
        BENCH.worth("7 - 9", "-2");
        BENCH.worth("[7, 8, 9] - [1, 2, 4]", "[6 6 5]");
        BENCH.worth("[[7], [8, 9]] * [[1], [2, 3]]", "{[7][16 27]}");
        BENCH.worth("sum(iota(64) == iota(64))", "64");
    }

    private static void dividing() {
        BENCH.sentence("Terms 3", "+ - * / % (towards 0; the rest has the first one's sign)");
        int[] ints = {7, -7, 2, -2, 1, -1, 6, -6, 2147483647, -2147483647};
        for (int x : ints) {
            for (int y : ints) {
                BENCH.worth(x + " / " + y, Long.toString((long) (Math.signum(x) * Math.signum(y)) * (Math.abs((long) x) / Math.abs((long) y))));
                BENCH.worth(x + " % " + y, Long.toString((long) Math.signum(x) * (Math.abs((long) x) % Math.abs((long) y))));
            }
        }
        BENCH.worth("0 / -5", "0");
        BENCH.worth("0 % -5", "0");
    }

    private static void bits() {
        BENCH.sentence("Terms 3", "& | (bits)");
        BENCH.worth("12 & 10", "8");
        BENCH.worth("12 | 10", "14");
        BENCH.worth("-1 & 2147483647", "2147483647");
        BENCH.worth("-1 & " + LEAST, "-2147483648");
        BENCH.worth(LEAST + " | 2147483647", "-1");
        BENCH.worth("1 & 2", "0");
        BENCH.worth("0 | 0", "0");
    }

    private static void comparing() {
        BENCH.sentence("Terms 3", "and the six that compare (1 or 0)");
        int[] ints = {Integer.MIN_VALUE, -1, 0, 1, Integer.MAX_VALUE};
        TallySlate x = Bench.loaded("fn k() { return [a == b, a != b, a < b, a <= b, a > b, a >= b]; }");
        for (int m : ints) {
            for (int n : ints) {
                x.set(0, m);
                x.set(1, n);
                x.run(0, 2, 99);
                String due = "[" + (m == n ? 1 : 0) + " " + (m != n ? 1 : 0) + " " + (m < n ? 1 : 0) + " " + (m <= n ? 1 : 0) + " " + (m > n ? 1 : 0)
                        + " " + (m >= n ? 1 : 0) + "]";
                BENCH.due(m + " with " + n, Bench.form(x, 2), due);
            }
        }
    }

    private static void ofOne() {
        BENCH.sentence("Terms 3", "- and ! (1 of 0, else 0) of one.");
        BENCH.worth("-0", "0");
        BENCH.worth("-5", "-5");
        BENCH.worth("-" + LEAST, "-2147483648");
        BENCH.worth("!0", "1");
        BENCH.worth("!1", "0");
        BENCH.worth("!(-1)", "0");
        BENCH.worth("!" + LEAST, "0");
        BENCH.worth("![0, 5, -1]", "[1 0 0]");
        BENCH.worth("-[[1, -2], []]", "{[-1 2][]}");
        BENCH.worth("![[0], []]", "{[1][]}");
        BENCH.worth("-[]", "[]");
        BENCH.worth("!rows([])", "{}");
        BENCH.fails("^-box()", 3);
        BENCH.fails("^!box(0)", 3);
    }

    private static void intWithRowOrTable() {
        BENCH.sentence("Terms 3", "Of an INT and a ROW or TABLE: with each of them.");
        BENCH.worth("10 - [1, 2]", "[9 8]");
        BENCH.worth("[1, 2] - 10", "[-9 -8]");
        BENCH.worth("10 - [[1], [], [2, 3]]", "{[9][][8 7]}");
        BENCH.worth("[[1], [], [2, 3]] - 10", "{[-9][][-8 -7]}");
        for (String sign : SIGNS) {
            BENCH.worth("5 " + sign + " []", "[]");
            BENCH.worth("[] " + sign + " 5", "[]");
            BENCH.worth("5 " + sign + " rows([])", "{}");
            BENCH.worth("[[]] " + sign + " 5", "{[]}");
        }
    }

    private static void twoRows() {
        BENCH.sentence("Terms 3", "Of two ROWS: UNLIKE if their SIZES are.");
        BENCH.worth("size(iota(64) + iota(64))", "64");
        for (String sign : SIGNS) {
            BENCH.worth("[] " + sign + " []", "[]");
            BENCH.fails("[] ^" + sign + " [1]", 4);
            BENCH.fails("[1] ^" + sign + " []", 4);
            BENCH.fails("[1, 2] ^" + sign + " [1]", 4);
            BENCH.fails("iota(63) ^" + sign + " iota(64)", 4);
        }
        BENCH.worth("[7, 8] - [1, 5]", "[6 3]");
    }

    private static void rowAndTable() {
        BENCH.sentence("Terms 3", "Of a ROW and a TABLE: with each of its ROWS, likewise");
        BENCH.worth("[10, 20] - [[1, 2], [3, 4]]", "{[9 18][7 16]}");
        BENCH.worth("[[1, 2], [3, 4]] - [10, 20]", "{[-9 -18][-7 -16]}");
        BENCH.worth("[1, 2] + rows([])", "{}");
        BENCH.worth("rows([]) + [1, 2]", "{}");
        BENCH.worth("[] + [[], []]", "{[][]}");
        BENCH.fails("[1] ^+ [[1], []]", 4);
        BENCH.fails("[[1], [1, 2]] ^+ [1]", 4);
        BENCH.fails("[] ^+ [[], [1]]", 4);
    }

    private static void twoTables() {
        BENCH.sentence("Terms 3", "of two TABLES: ROW with ROW: UNLIKE if their SIZES are, or those of any two ROWS.");
        BENCH.worth("[[5, 6], []] - [[1, 2], []]", "{[4 4][]}");
        BENCH.worth("rows([]) + rows([])", "{}");
        BENCH.fails("rows([]) ^+ [[]]", 4);
        BENCH.fails("[[1]] ^+ [[1], [1]]", 4);
        BENCH.fails("[[1], [1]] ^+ [[1]]", 4);
        BENCH.fails("[[1], [1]] ^+ [[1], []]", 4);
        BENCH.fails("[[], [1]] ^+ [[1], []]", 4);
        BENCH.fails("[[1, 2], [3]] ^+ [[1], [2, 3]]", 4);
    }

    private static void packs() {
        BENCH.sentence("Terms 3", "PACKS: KIND.");
        String[] others = {"1", "[1]", "[]", "[[1]]", "box()", "box(1)"};
        for (String sign : SIGNS) {
            for (String other : others) {
                BENCH.fails("box() ^" + sign + " " + other, 3);
                BENCH.fails(other + " ^" + sign + " box(1)", 3);
            }
        }
    }

    private static void theOrder() {
        BENCH.sentence("Terms 3", "(KIND, UNLIKE, ZERO.)");
        BENCH.fails("box() ^/ 0", 3);
        BENCH.fails("box() ^/ [0]", 3);
        BENCH.fails("[1] ^/ [0, 0]", 4);
        BENCH.fails("[1, 2] ^% [0]", 4);
        BENCH.fails("[[1], [2]] ^/ [[0], [0, 1]]", 4);
        BENCH.fails("[[1], [2, 3]] ^/ [0]", 4);
        BENCH.fails("[1, 2] ^/ 0", 6);
        BENCH.fails("1 ^% [5, 0]", 6);
        BENCH.fails("[[1], []] ^/ [[0], []]", 6);
        BENCH.gives("fn k() { try { x = 1 / 0; } on x { } return [6 / 2, 7 % 4]; }", "[3 3]");
    }

    private static void theLeastOne() {
        BENCH.sentence("Terms 3", "The least one / -1 is itself, % -1 is 0.");
        BENCH.worth(LEAST + " / -1", "-2147483648");
        BENCH.worth(LEAST + " % -1", "0");
        BENCH.worth("[" + LEAST + ", 5] / -1", "[-2147483648 -5]");
        BENCH.worth("[[" + LEAST + ", 5]] % [-1, -1]", "{[0 0]}");
        BENCH.worth(LEAST + " / 1", "-2147483648");
    }

    private static void literals() {
        BENCH.sentence("Terms 3", "LITERAL: all INTS (also none): a ROW; all ROWS: a TABLE; KIND otherwise");
        BENCH.worth("kind([])", "1");
        BENCH.worth("kind([1])", "1");
        BENCH.worth("kind([[]])", "2");
        BENCH.worth("[[1], []]", "{[1][]}");
        String[] wrong = {"[1, []]", "[[], 1]", "[1, 2, []]", "[[[]]]", "[[], [[]]]", "[1, rows([])]", "[box()]", "[1, box()]", "[[], box()]", "[box(), 1]"};
        for (String literal : wrong) {
            BENCH.fails("^" + literal, 3);
        }
    }

    private static void literalsThatAreTooGreat() {
        BENCH.sentence("Terms 3", "all ROWS: a TABLE; KIND otherwise; GREAT.");
        String ints = "0,".repeat(63) + "0";
        String rows = "[],".repeat(19) + "[]";
        BENCH.worth("size([" + ints + "])", "64");
        BENCH.fails("^[" + ints + ",0]", 2);
        BENCH.fails("^[" + ints + ",0,[]]", 3);
        BENCH.worth("size([" + rows + "])", "20");
        BENCH.fails("^[" + rows + ",[]]", 2);
        BENCH.fails("^[" + rows + ",[],1]", 3);
        BENCH.worth("size([iota(50), iota(50), iota(50), iota(50)])", "4");
        BENCH.fails("^[iota(50), iota(50), iota(50), iota(51)]", 2);
    }

    private static void placesOfOne() {
        BENCH.sentence("Terms 3", "P [E]: E an INT: of a ROW the INT there, of a TABLE the ROW, of a PACK the THING.");
        BENCH.worth("iota(64)[0]", "0");
        BENCH.worth("iota(64)[63]", "63");
        BENCH.worth("[[1], [2, 3]][1]", "[2 3]");
        BENCH.worth("[[1], [2, 3]][1][1]", "3");
        BENCH.worth("box(1, [2], [[3]], box())[0]", "1");
        BENCH.worth("box(1, [2], [[3]], box())[3]", "()");
    }

    private static void placesOfARow() {
        BENCH.sentence("Terms 3", "E a ROW: a ROW, TABLE, PACK of those of all its PLACES, in its order.");
        BENCH.worth("[5, 6, 7][[2, 0, 2]]", "[7 5 7]");
        BENCH.worth("[5][[]]", "[]");
        BENCH.worth("[][[]]", "[]");
        BENCH.worth("[[5], []][[1, 0, 0]]", "{[][5][5]}");
        BENCH.worth("[[5]][[]]", "{}");
        BENCH.worth("box(5, [6])[[1, 0, 1]]", "([6];5;[6])");
        BENCH.worth("box(5)[[]]", "()");
        BENCH.worth("size([5][row(64)])", "64");
    }

    private static void troublesOfPlaces() {
        BENCH.sentence("Terms 3", "KIND, PLACE (of any), GREAT.");
        String[] kinds = {"5^[0]", "5^[[]]", "5^[box()]", "[1]^[[[]]]", "[1]^[box(0)]", "[[1]]^[[[0]]]", "box(1)^[box()]", "[]^[rows([])]"};
        for (String kind : kinds) {
            BENCH.fails(kind, 3);
        }
        String[] places = {"[1, 2]^[2]", "[1, 2]^[-1]", "[]^[0]", "[1]^[2147483647]", "[1]^[-2147483647 - 1]", "[[1]]^[1]", "box(1)^[1]",
            "[1, 2]^[[0, 1, 2]]", "[1, 2]^[[2, 0]]", "[1, 2]^[[0, -1, 0]]", "[[1]]^[[0, 1]]", "box(1)^[[1, 0]]", "[]^[[0]]",
            "[[1]]^[join(row(20), 1)]", "box(1)^[join(row(20), -1)]", "[iota(64)]^[join(row(4), 1)]", "box(iota(64))^[join(row(10), 1)]"};
        for (String place : places) {
            BENCH.fails(place, 5);
        }
        BENCH.worth("size([[1]][row(20)])", "20");
        BENCH.worth("size([iota(64)][row(3)])", "3");
        BENCH.worth("size(box(1)[row(20)])", "20");
        BENCH.worth("size(box(iota(64))[row(9)])", "9");
        String[] greats = {"[[1]]^[row(21)]", "[iota(64)]^[row(4)]", "box(1)^[row(21)]", "box(iota(64))^[row(10)]"};
        for (String great : greats) {
            BENCH.fails(great, 2);
        }
    }
}
