/** The edges that promises 11 to 20 name, sentence by sentence: set, add, clear, kind, size, cell, same, mark, back, sum. */
public final class EdgesPromises11To20Test {
    private static final Bench BENCH = new Bench("EdgesPromises11To20Test");
    private static final int NONE = TallySlate.NONE;
    private static final int LEAST = Integer.MIN_VALUE;
    private static final int GREATEST = Integer.MAX_VALUE;
    private static final int[] NO_SHELVES = {LEAST, -2, NONE, 8, 9, GREATEST};
    private static final int[] NO_PLACES = {LEAST, -2, 64, 200, GREATEST};

    public static void main(String[] args) {
        setOfNoShelf();
        addToARow();
        addToNoRow();
        addRefuses();
        clearRefuses();
        kindOfNone();
        sizeOfAll();
        sizeOfNone();
        cellOfNone();
        sameOfBare();
        sameOfNoShelf();
        marksAreKept();
        theSeventhMark();
        backToNothing();
        sumOfBare();
        sumOfEmpty();
        sumHas64Bits();
        BENCH.end();
    }

    /** a to d: an INT, a ROW of 3, a TABLE of 3 ROWS, a PACK of 4 THINGS; the others are bare. */
    private static TallySlate filled() {
        TallySlate x = Bench.loaded("fn k() { a = 7; b = [4, 5, 6]; c = [[1, 2], [], [3]]; d = box(8, [9, 10], [[11]], box(12)); }");
        x.run(0, NONE, 99);
        return x;
    }

    private static TallySlate empties() {
        TallySlate x = Bench.loaded("fn k() { a = 0; b = []; c = rows([]); d = box(); }");
        x.run(0, NONE, 99);
        return x;
    }

    private static void setOfNoShelf() {
        BENCH.sentence("Promise 11", "A SHELF has an INT: true; false if there is none such.");
        TallySlate x = filled();
        for (int shelf = 0; shelf < 8; shelf++) {
            int v = shelf == 0 ? LEAST : shelf == 7 ? GREATEST : shelf;
            BENCH.due("set(" + shelf + ", " + v + ")", x.set(shelf, v), true);
            BENCH.due("kind(" + shelf + ")", x.kind(shelf), 0);
            BENCH.due("cell(" + shelf + ", 0, 0)", x.cell(shelf, 0, 0), v);
        }
        long before = x.sum();
        for (int shelf : NO_SHELVES) {
            BENCH.due("set(" + shelf + ", 1)", x.set(shelf, 1), false);
            BENCH.due("sum() stays", x.sum(), before);
        }
    }

    private static void addToARow() {
        BENCH.sentence("Promise 12", "An INT comes behind those of the ROW that a SHELF has");
        TallySlate x = filled();
        BENCH.due("add(1, LEAST)", x.add(1, LEAST), true);
        BENCH.due("add(1, GREATEST)", x.add(1, GREATEST), true);
        BENCH.due("b", Bench.form(x, 1), "[4 5 6 -2147483648 2147483647]");
    }

    private static void addToNoRow() {
        BENCH.sentence("Promise 12", "if it has none, it has a ROW of just that then: true");
        TallySlate x = filled();
        int[] shelves = {0, 2, 3, 4, 7};
        for (int shelf : shelves) {
            BENCH.due("add(" + shelf + ", -9)", x.add(shelf, -9), true);
            BENCH.due("its FORM", Bench.form(x, shelf), "[-9]");
        }
        x = empties();
        BENCH.due("add to a ROW of none", x.add(1, 5), true);
        BENCH.due("its FORM", Bench.form(x, 1), "[5]");
    }

    private static void addRefuses() {
        BENCH.sentence("Promise 12", "false if there are 64, or there is no such SHELF.");
        TallySlate x = new TallySlate();
        for (int i = 0; i < 64; i++) {
            BENCH.due("add " + (i + 1), x.add(7, i), true);
        }
        long before = x.sum();
        BENCH.due("add 65", x.add(7, 64), false);
        for (int shelf : NO_SHELVES) {
            BENCH.due("add(" + shelf + ", 1)", x.add(shelf, 1), false);
        }
        BENCH.due("sum() stays", x.sum(), before);
        BENCH.due("size(7, NONE)", x.size(7, NONE), 64);
        BENCH.due("cell(7, 63, 0)", x.cell(7, 63, 0), 63);
    }

    private static void clearRefuses() {
        BENCH.sentence("Promise 13", "A SHELF is BARE: true; false if it was, or there is none such.");
        TallySlate x = filled();
        x.set(7, 0);
        int[] shelves = {0, 1, 2, 3, 7};
        for (int shelf : shelves) {
            BENCH.due("clear(" + shelf + ")", x.clear(shelf), true);
            BENCH.due("kind(" + shelf + ")", x.kind(shelf), NONE);
            BENCH.due("clear(" + shelf + ") again", x.clear(shelf), false);
        }
        BENCH.due("clear(4), never had", x.clear(4), false);
        for (int shelf : NO_SHELVES) {
            BENCH.due("clear(" + shelf + ")", x.clear(shelf), false);
        }
        x = empties();
        for (int shelf = 0; shelf < 4; shelf++) {
            BENCH.due("clear(" + shelf + ") of an empty one", x.clear(shelf), true);
        }
        BENCH.due("all are bare", x.sum(), new TallySlate().sum());
    }

    private static void kindOfNone() {
        BENCH.sentence("Promise 14", "What a SHELF has: 0 an INT, 1 a ROW, 2 a TABLE, 3 a PACK; NONE if it is BARE, or there is none such.");
        TallySlate x = empties();
        int[] due = {0, 1, 2, 3, NONE, NONE, NONE, NONE};
        for (int shelf = 0; shelf < 8; shelf++) {
            BENCH.due("kind(" + shelf + ")", x.kind(shelf), due[shelf]);
        }
        for (int shelf : NO_SHELVES) {
            BENCH.due("kind(" + shelf + ")", x.kind(shelf), NONE);
        }
    }

    private static void sizeOfAll() {
        BENCH.sentence("Promise 15", "i NONE: the SIZE (of an INT 0)");
        TallySlate x = filled();
        int[] due = {0, 3, 3, 4};
        for (int shelf = 0; shelf < 4; shelf++) {
            BENCH.due("size(" + shelf + ", NONE)", x.size(shelf, NONE), due[shelf]);
        }
        x = empties();
        for (int shelf = 0; shelf < 4; shelf++) {
            BENCH.due("size(" + shelf + ", NONE) of an empty one", x.size(shelf, NONE), 0);
        }
    }

    private static void sizeOfNone() {
        BENCH.sentence("Promise 15", "else of a TABLE the SIZE of ROW i, of a PACK the kind of THING i.");
        TallySlate x = filled();
        int[][] there = {{2, 0, 2}, {2, 1, 0}, {2, 2, 1}, {3, 0, 0}, {3, 1, 1}, {3, 2, 2}, {3, 3, 3}};
        for (int[] t : there) {
            BENCH.due("size(" + t[0] + ", " + t[1] + ")", x.size(t[0], t[1]), t[2]);
        }
        BENCH.sentence("Promise 15", "NONE where there is none such.");
        int[][] none = {{0, 0}, {1, 0}, {1, 2}, {1, 3}, {2, 3}, {3, 4}, {4, NONE}, {4, 0}, {7, NONE}, {7, 0}};
        for (int[] n : none) {
            BENCH.due("size(" + n[0] + ", " + n[1] + ")", x.size(n[0], n[1]), NONE);
        }
        for (int i : NO_PLACES) {
            for (int shelf = 0; shelf < 5; shelf++) {
                BENCH.due("size(" + shelf + ", " + i + ")", x.size(shelf, i), NONE);
            }
        }
        for (int shelf : NO_SHELVES) {
            BENCH.due("size(" + shelf + ", NONE)", x.size(shelf, NONE), NONE);
            BENCH.due("size(" + shelf + ", 0)", x.size(shelf, 0), NONE);
        }
    }

    private static void cellOfNone() {
        BENCH.sentence("Promise 16", "an INT itself; INT i of a ROW; INT j of ROW i of a TABLE; of a PACK THING i if it is an INT, INT j of"
                + " it if it is a ROW.");
        TallySlate x = filled();
        int[][] there = {{0, -5, 99, 7}, {1, 0, -9, 4}, {1, 2, 9, 6}, {2, 0, 0, 1}, {2, 0, 1, 2}, {2, 2, 0, 3}, {3, 0, -7, 8}, {3, 1, 0, 9}, {3, 1, 1, 10}};
        for (int[] t : there) {
            BENCH.due("cell(" + t[0] + ", " + t[1] + ", " + t[2] + ")", x.cell(t[0], t[1], t[2]), t[3]);
        }
        BENCH.sentence("Promise 16", "0 where there is none such.");
        int[][] none = {{1, NONE, 0}, {1, 3, 0}, {2, NONE, 0}, {2, 0, NONE}, {2, 0, 2}, {2, 1, 0}, {2, 2, 1}, {2, 3, 0}, {3, NONE, 0}, {3, 1, NONE},
            {3, 1, 2}, {3, 2, 0}, {3, 3, 0}, {3, 4, 0}, {4, 0, 0}, {7, 0, 0}};
        for (int[] n : none) {
            BENCH.due("cell(" + n[0] + ", " + n[1] + ", " + n[2] + ")", x.cell(n[0], n[1], n[2]), 0);
        }
        for (int i : NO_PLACES) {
            for (int shelf = 1; shelf < 5; shelf++) {
                BENCH.due("cell(" + shelf + ", " + i + ", 0)", x.cell(shelf, i, 0), 0);
            }
            BENCH.due("cell(2, 0, " + i + ")", x.cell(2, 0, i), 0);
            BENCH.due("cell(3, 1, " + i + ")", x.cell(3, 1, i), 0);
        }
        for (int shelf : NO_SHELVES) {
            BENCH.due("cell(" + shelf + ", 0, 0)", x.cell(shelf, 0, 0), 0);
        }
    }

    private static void sameOfBare() {
        BENCH.sentence("Promise 17", "Whether two SHELVES have the same, as same() tells, or are both BARE");
        TallySlate x = empties();
        for (int i = 0; i < 6; i++) {
            for (int j = 0; j < 6; j++) {
                // e and f are bare; an empty THING is another one than none, and than those of other kinds.
                BENCH.due("same(" + i + ", " + j + ")", x.same(i, j), i == j || i > 3 && j > 3);
            }
        }
        x.set(4, NONE);
        BENCH.due("same(4, 5), an INT of -1", x.same(4, 5), false);
        x.clear(4);
        BENCH.due("same(4, 5), cleared", x.same(4, 5), true);
    }

    private static void sameOfNoShelf() {
        BENCH.sentence("Promise 17", "false if one is none.");
        TallySlate x = filled();
        for (int shelf : NO_SHELVES) {
            BENCH.due("same(" + shelf + ", 0)", x.same(shelf, 0), false);
            BENCH.due("same(0, " + shelf + ")", x.same(0, shelf), false);
            BENCH.due("same(" + shelf + ", 7), bare", x.same(shelf, 7), false);
            BENCH.due("same(7, " + shelf + "), bare", x.same(7, shelf), false);
            BENCH.due("same(" + shelf + ", " + shelf + ")", x.same(shelf, shelf), false);
        }
    }

    private static void marksAreKept() {
        BENCH.sentence("Promise 18", "What all SHELVES have is kept, above what was kept before: how many times it is kept then");
        TallySlate x = filled();
        long first = x.sum();
        BENCH.due("mark()", x.mark(), 1);
        x.add(1, 9);
        x.clear(3);
        x.set(7, 1);
        long second = x.sum();
        BENCH.due("mark()", x.mark(), 2);
        BENCH.due("mark() changes no shelf", x.sum(), second);
        x.set(0, 0);
        BENCH.sentence("Promise 19", "All SHELVES have what was kept last");
        BENCH.due("back()", x.back(), true);
        BENCH.due("sum()", x.sum(), second);
        BENCH.due("back()", x.back(), true);
        BENCH.due("sum()", x.sum(), first);
        BENCH.due("mark() again", x.mark(), 1);
        x.set(0, 8);
        x.add(1, 8);
        BENCH.due("back() again", x.back(), true);
        BENCH.due("sum()", x.sum(), first);
    }

    private static void theSeventhMark() {
        BENCH.sentence("Promise 18", "at most 6 (a seventh: the oldest goes).");
        TallySlate x = new TallySlate();
        for (int i = 1; i <= 8; i++) {
            x.set(0, i);
            x.add(7, i);
            BENCH.due("mark " + i, x.mark(), Math.min(i, 6));
        }
        x.clear(0);
        x.clear(7);
        for (int i = 8; i > 2; i--) {
            BENCH.due("back to " + i, x.back(), true);
            BENCH.due("a", x.cell(0, 0, 0), i);
            BENCH.due("h", x.size(7, NONE), i);
        }
        BENCH.due("the two oldest went", x.back(), false);
        BENCH.due("a stays", x.cell(0, 0, 0), 3);
        BENCH.due("mark() then", x.mark(), 1);
    }

    private static void backToNothing() {
        BENCH.sentence("Promise 19", "which is kept no more: true; false if nothing is kept.");
        TallySlate x = new TallySlate();
        x.set(0, 5);
        BENCH.due("back() of a new one", x.back(), false);
        BENCH.due("a stays", x.cell(0, 0, 0), 5);
        x.mark();
        x.set(0, 6);
        BENCH.due("back()", x.back(), true);
        BENCH.due("a", x.cell(0, 0, 0), 5);
        x.set(0, 7);
        BENCH.due("back() again", x.back(), false);
        BENCH.due("a stays", x.cell(0, 0, 0), 7);
        TallySlate bare = new TallySlate();
        bare.mark();
        bare.set(0, 1);
        BENCH.due("back() to bare ones", bare.back(), true);
        BENCH.due("kind(0)", bare.kind(0), NONE);
    }

    private static long of(int... numbers) {
        long sum = 0;
        for (int n : numbers) {
            sum = sum * 1000003L ^ (long) n;
        }
        return sum;
    }

    private static void sumOfBare() {
        BENCH.sentence("Promise 20", "SHELF by SHELF NONE if it is BARE");
        TallySlate x = new TallySlate();
        BENCH.due("sum() of bare ones", x.sum(), of(-1, -1, -1, -1, -1, -1, -1, -1));
        x.set(0, 5);
        BENCH.due("sum() with a", x.sum(), of(0, 5, -1, -1, -1, -1, -1, -1, -1));
        x.clear(0);
        x.set(7, NONE);
        BENCH.due("sum() with h", x.sum(), of(-1, -1, -1, -1, -1, -1, -1, 0, -1));
    }

    private static void sumOfEmpty() {
        BENCH.sentence("Promise 20", "else the kind; of an INT itself, of a ROW its SIZE and INTS, of a TABLE its SIZE, of each ROW likewise,"
                + " of a PACK its SIZE, of each THING all of this.");
        BENCH.due("sum() of empty ones", empties().sum(), of(0, 0, 1, 0, 2, 0, 3, 0, -1, -1, -1, -1));
        BENCH.due("sum() of all kinds", filled().sum(), of(0, 7, 1, 3, 4, 5, 6, 2, 3, 2, 1, 2, 0, 1, 3,
                3, 4, 0, 8, 1, 2, 9, 10, 2, 1, 1, 11, 3, 1, 0, 12, -1, -1, -1, -1));
    }

    private static void sumHas64Bits() {
        BENCH.sentence("Promise 20", "A sum of numbers, from 0 on, each time the sum times 1000003, exclusive or the number (64 bits)");
        TallySlate x = new TallySlate();
        for (int i = 0; i < 64; i++) {
            x.add(0, LEAST + i);
        }
        x.set(7, GREATEST);
        int[] numbers = new int[74];
        numbers[0] = 1;
        numbers[1] = 64;
        for (int i = 0; i < 64; i++) {
            numbers[2 + i] = LEAST + i;
        }
        for (int i = 66; i < 72; i++) {
            numbers[i] = NONE;
        }
        numbers[73] = GREATEST;
        BENCH.due("sum()", x.sum(), of(numbers));
    }
}
