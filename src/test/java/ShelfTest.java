/** Promises 11 to 17: set, add, clear, kind, size, cell, same. */
public final class ShelfTest {
    private static final Bench BENCH = new Bench("ShelfTest");
    private static final int[] NO_SHELVES = {-1, 8, -2, 100, Integer.MIN_VALUE, Integer.MAX_VALUE};
    private static final String TEXT = "fn k() { a = 7; b = [4, 5, 6]; c = [[1, 2], [], [3]]; d = box(8, [9, 10], [[11]], box(12)); }";

    public static void main(String[] args) {
        set();
        add();
        clear();
        kind();
        size();
        cell();
        same();
        BENCH.end();
    }

    private static TallySlate filled() {
        TallySlate x = Bench.loaded(TEXT);
        x.run(0, -1, 99);
        return x;
    }

    private static void set() {
        TallySlate x = filled();
        for (int shelf = 0; shelf < 8; shelf++) {
            BENCH.due("set(" + shelf + ", 5)", x.set(shelf, 5 + shelf), true);
            BENCH.due("its FORM", Bench.form(x, shelf), Integer.toString(5 + shelf));
        }
        BENCH.due("set(0, least)", x.set(0, Integer.MIN_VALUE), true);
        BENCH.due("cell", x.cell(0, 0, 0), Integer.MIN_VALUE);
        long sum = x.sum();
        for (int shelf : NO_SHELVES) {
            BENCH.due("set(" + shelf + ", 1)", x.set(shelf, 1), false);
        }
        BENCH.due("sum() stays", x.sum(), sum);
    }

    private static void add() {
        TallySlate x = filled();
        BENCH.due("add to an INT", x.add(0, 1), true);
        BENCH.due("a", Bench.form(x, 0), "[1]");
        BENCH.due("add to a ROW", x.add(1, -1), true);
        BENCH.due("b", Bench.form(x, 1), "[4 5 6 -1]");
        BENCH.due("add to a TABLE", x.add(2, 2), true);
        BENCH.due("c", Bench.form(x, 2), "[2]");
        BENCH.due("add to a PACK", x.add(3, 3), true);
        BENCH.due("d", Bench.form(x, 3), "[3]");
        BENCH.due("add to a bare one", x.add(7, Integer.MIN_VALUE), true);
        BENCH.due("h", Bench.form(x, 7), "[-2147483648]");
        for (int i = 0; i < 64; i++) {
            BENCH.due("add " + i, x.add(4, i), true);
        }
        long sum = x.sum();
        BENCH.due("add to 64", x.add(4, 64), false);
        for (int shelf : NO_SHELVES) {
            BENCH.due("add(" + shelf + ", 1)", x.add(shelf, 1), false);
        }
        BENCH.due("sum() stays", x.sum(), sum);
        BENCH.due("size", x.size(4, -1), 64);
        BENCH.due("cell(4, 63, 0)", x.cell(4, 63, 0), 63);
    }

    private static void clear() {
        TallySlate x = filled();
        for (int shelf = 0; shelf < 4; shelf++) {
            BENCH.due("clear(" + shelf + ")", x.clear(shelf), true);
            BENCH.due("kind", x.kind(shelf), -1);
            BENCH.due("clear again", x.clear(shelf), false);
        }
        BENCH.due("clear of a bare one", x.clear(6), false);
        for (int shelf : NO_SHELVES) {
            BENCH.due("clear(" + shelf + ")", x.clear(shelf), false);
        }
        BENCH.due("as a new one", x.sum(), new TallySlate().sum());
        x.add(0, 5);
        BENCH.due("add behind a clear", Bench.form(x, 0), "[5]");
        TallySlate y = Bench.loaded("fn k() { return a; }");
        y.set(0, 1);
        y.clear(0);
        BENCH.due("a cleared one is BARE", y.run(0, 0, 9), 7);
    }

    private static void kind() {
        TallySlate x = filled();
        int[] due = {0, 1, 2, 3, -1, -1, -1, -1};
        for (int shelf = 0; shelf < 8; shelf++) {
            BENCH.due("kind(" + shelf + ")", x.kind(shelf), due[shelf]);
        }
        for (int shelf : NO_SHELVES) {
            BENCH.due("kind(" + shelf + ")", x.kind(shelf), -1);
        }
    }

    private static void size() {
        TallySlate x = filled();
        int[][] due = {{0, -1, 0}, {1, -1, 3}, {2, -1, 3}, {3, -1, 4}, {4, -1, -1}, {0, 0, -1}, {1, 0, -1}, {2, 0, 2}, {2, 1, 0}, {2, 2, 1},
            {2, 3, -1}, {2, -2, -1}, {3, 0, 0}, {3, 1, 1}, {3, 2, 2}, {3, 3, 3}, {3, 4, -1}, {3, -2, -1}, {0, -2, -1}, {1, -2, -1}, {1, 3, -1},
            {2, Integer.MAX_VALUE, -1}, {3, Integer.MIN_VALUE, -1}, {4, 0, -1}};
        for (int[] d : due) {
            BENCH.due("size(" + d[0] + ", " + d[1] + ")", x.size(d[0], d[1]), d[2]);
        }
        for (int shelf : NO_SHELVES) {
            BENCH.due("size(" + shelf + ", -1)", x.size(shelf, -1), -1);
            BENCH.due("size(" + shelf + ", 0)", x.size(shelf, 0), -1);
        }
    }

    private static void cell() {
        TallySlate x = filled();
        int[][] due = {{0, 0, 0, 7}, {0, -5, 99, 7}, {1, 0, 0, 4}, {1, 2, -9, 6}, {1, 3, 0, 0}, {1, -1, 0, 0}, {2, 0, 0, 1}, {2, 0, 1, 2}, {2, 0, 2, 0},
            {2, 0, -1, 0}, {2, 1, 0, 0}, {2, 2, 0, 3}, {2, 3, 0, 0}, {2, -1, 0, 0}, {3, 0, 0, 8}, {3, 0, -7, 8}, {3, 1, 0, 9}, {3, 1, 1, 10}, {3, 1, 2, 0},
            {3, 1, -1, 0}, {3, 2, 0, 0}, {3, 3, 0, 0}, {3, 4, 0, 0}, {3, -1, 0, 0}, {4, 0, 0, 0}, {1, Integer.MAX_VALUE, 0, 0},
            {2, 0, Integer.MAX_VALUE, 0}, {2, Integer.MIN_VALUE, Integer.MIN_VALUE, 0}};
        for (int[] d : due) {
            BENCH.due("cell(" + d[0] + ", " + d[1] + ", " + d[2] + ")", x.cell(d[0], d[1], d[2]), d[3]);
        }
        for (int shelf : NO_SHELVES) {
            BENCH.due("cell(" + shelf + ", 0, 0)", x.cell(shelf, 0, 0), 0);
        }
    }

    private static void same() {
        TallySlate x = Bench.loaded("fn k() { a = [1, 2]; b = join(1, 2); c = [[1, 2]]; d = box([1, 2]); e = box(join(1, 2)); f = box([1, 3]); g = 1; }");
        x.run(0, -1, 99);
        String likes = " 01 34 ";
        for (int i = 0; i < 8; i++) {
            for (int j = 0; j < 8; j++) {
                boolean due = i == j || likes.contains(" " + Math.min(i, j) + Math.max(i, j) + " ");
                BENCH.due("same(" + i + ", " + j + ")", x.same(i, j), due);
            }
        }
        emptyOnesDiffer();
        x.clear(6);
        BENCH.due("both bare", x.same(6, 7), true);
        BENCH.due("one bare", x.same(0, 7), false);
        for (int shelf : NO_SHELVES) {
            BENCH.due("same(" + shelf + ", 0)", x.same(shelf, 0), false);
            BENCH.due("same(7, " + shelf + ")", x.same(7, shelf), false);
            BENCH.due("same(" + shelf + ", " + shelf + ")", x.same(shelf, shelf), false);
        }
    }

    private static void emptyOnesDiffer() {
        TallySlate x = Bench.loaded("fn k() { a = 0; b = []; c = rows([]); d = box(); }");
        x.run(0, -1, 99);
        for (int i = 0; i < 5; i++) {
            for (int j = 0; j < 5; j++) {
                BENCH.due("same(" + i + ", " + j + ") of empty ones", x.same(i, j), i == j);
            }
        }
    }
}
