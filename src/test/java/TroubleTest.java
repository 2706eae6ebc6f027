/** Promise 7: trouble; STEPS, MADE, open CALLS and what was TAKEN. */
public final class TroubleTest {
    private static final Bench BENCH = new Bench("TroubleTest");

    public static void main(String[] args) {
        answers();
        steps();
        made();
        openCalls();
        taken();
        triesEnd();
        fuel();
        tooMuch();
        BENCH.end();
    }

    private static void answers() {
        TallySlate x = Bench.loaded("fn k() { raise 5; } fn l() { } fn m(x) { } fn n() { try { raise 6; } on x { } y = 1 / 0; }");
        for (int what = -1; what < 8; what++) {
            BENCH.due("ahead of any: trouble(" + what + ")", x.trouble(what), -1);
        }
        x.run(2, 0, 9);
        BENCH.due("behind a NONE", x.trouble(0), -1);
        x.run(0, 0, 9);
        BENCH.due("raised", Bench.troubles(x), "9 9 5 1 0 1 0");
        BENCH.due("trouble(-1)", x.trouble(-1), -1);
        BENCH.due("trouble(7)", x.trouble(7), -1);
        BENCH.due("trouble(least)", x.trouble(Integer.MIN_VALUE), -1);
        x.run(2, 0, 9);
        BENCH.due("the one before stays", Bench.troubles(x), "9 9 5 1 0 1 0");
        x.run(1, 0, 9);
        BENCH.due("without any", Bench.troubles(x), "0 -1 0 0 0 1 0");
        x.run(3, 0, 9);
        BENCH.due("another kind has no INT", x.trouble(2), 0);
        BENCH.due("one was taken", x.trouble(6), 1);
        BENCH.tells("fn k() { raise -7; }", 9, "9 9 -7 2 0 1 0");
    }

    private static void steps() {
        BENCH.costs("fn k() { }", 0, 0);
        BENCH.costs("fn k() { x = 1; }", 1, 0);
        BENCH.costs("fn k() { x = (((1))); }", 1, 0);
        BENCH.costs("fn k() { x = 1 + 2 * 3; }", 3, 0);
        BENCH.costs("fn k() { x = -1; x = !x; }", 4, 0);
        BENCH.costs("fn k() { x = [1, 2]; }", 2, 6);
        BENCH.costs("fn k() { x = [1, 2]; x[0] = 1; }", 3, 12);
        BENCH.costs("fn k() { x = [[1]]; x[0][0] = 1; }", 4, 5 + 9 + 9);
        BENCH.costs("fn k() { x = [1, 2][0]; }", 3, 6);
        BENCH.costs("fn k() { x = size([]); }", 3, 4);
        BENCH.costs("fn k() { row(0); }", 2, 4);
        BENCH.costs("fn k() { l(); }  fn l() { }", 2, 0);
        BENCH.costs("fn k() { l(); }  fn l() { return 1; }", 3, 0);
        BENCH.costs("fn k() { if (1) { x = 1; } }", 2, 0);
        BENCH.costs("fn k() { if (0) { x = 1; } else { x = 1; x = 2; } }", 3, 0);
        BENCH.costs("fn k() { while (0) { } }", 2, 0);
        BENCH.costs("fn k() { x = 3; while (x) { x = x - 1; } }", 1 + 1 + 4 + 6, 0);
        BENCH.costs("fn k() { for x in 3 { } }", 5, 0);
        BENCH.costs("fn k() { for x in 0 { } }", 2, 0);
        BENCH.costs("fn k() { for x in [7, 8] { y = x; } }", 1 + 1 + 3 + 2, 6);
        BENCH.costs("fn k() { for x in -1 { } }", 2, 0);
        BENCH.costs("fn k() { say 1; return 2; }", 2, 0);
        BENCH.costs("fn k() { try { x = 1; } on y { x = 2; } }", 2, 0);
        BENCH.costs("fn k() { try { raise 1; } on y { x = 2; } }", 3, 300);
        BENCH.costs("fn k() { x = each(l, [1, 2, 3]); } fn l(x) { return x; }", 1 + 1 + 1 + 3 + 3, 7 + 7);
        BENCH.costs("fn k() { x = fold(l, 0, [1, 2, 3]); } fn l(x, y) { return x; }", 1 + 1 + 1 + 3 + 3, 7);
        BENCH.costs("fn k() { x = each(l, []); } fn l(x) { return x; }", 3, 8);
        // A step is counted ahead of the trouble of what is done.
        BENCH.costs("fn k() { x = 1 / 0; }", 2, 0);
        BENCH.costs("fn k() { x = y + 1; }", 1, 0);
        BENCH.costs("fn k() { x = row(99); }", 2, 0);
    }

    private static void made() {
        BENCH.costs("fn k() { x = []; }", 2, 4);
        BENCH.costs("fn k() { x = iota(9); y = x; z = l(x); } fn l(x) { return x; }", 6, 13);
        BENCH.costs("fn k() { x = [[1, 2], [3], []]; }", 5, 6 + 5 + 4 + 19);
        BENCH.costs("fn k() { x = grid(2, 3); y = x[1]; z = x[1][1]; }", 3 + 4, 18 + 7 + 7);
        BENCH.costs("fn k() { x = box(1, 2, 3); }", 2, 10);
        BENCH.costs("fn k() { x = box(iota(9), box()); y = x[0]; z = x[1]; x[0] = 5; }", 9, 13 + 4 + 8 + 13 + 4 + 8);
        BENCH.costs("fn k() { x = pack(20); }", 2, 44);
        BENCH.costs("fn k() { x = iota(3); y = x + 1; y = -x; y = x[[0, 0]]; }", 9, 7 + 7 + 7 + 6 + 6);
        BENCH.costs("fn k() { x = sum(5); x = sum([5]); x = sum([[5]]); }", 9, 5 + 5 + 9 + 5);
        BENCH.costs("fn k() { x = [1, [2]]; }", 3, 5);
    }

    private static void openCalls() {
        BENCH.tells("fn k() { l(); m(); } fn l() { m(); } fn m() { }", 99, "0 -1 0 6 0 3 0");
        BENCH.tells("fn k() { k(); }", 99, "8 9 0 20 0 10 0");
        BENCH.tells("fn k() { each(l, [1]); } fn l(x) { m(); } fn m() { }", 99, "0 -1 0 6 10 3 0");
        BENCH.tells("fn k() { try { l(); } on x { } } fn l() { l(); }", 99, "0 -1 0 21 300 10 1");
    }

    private static void taken() {
        BENCH.tells("fn k() { for x in 10 { try { raise x; } on y { } } }", 99, "0 -1 0 32 3000 1 10");
        BENCH.tells("fn k() { for x in 11 { try { raise x; } on y { } } }", 99, "11 40 0 34 3300 1 11");
        BENCH.tells("fn k() { try { try { raise 1; } on x { raise 2; } } on y { } }", 99, "0 -1 0 4 600 1 2");
        BENCH.tells("fn k() { try { raise 1; } on x { raise 2; } }", 99, "9 33 2 3 300 1 1");
    }

    /** A try that is over, or left by a return, takes nothing any more. */
    private static void triesEnd() {
        BENCH.tells("fn k() { try { } on x { } raise 1; }", 99, "9 26 1 2 0 1 0");
        BENCH.tells("fn k() { l(); raise 1; } fn l() { try { return 1; } on x { } }", 99, "9 14 1 5 0 2 0");
        BENCH.tells("fn k() { l(); raise 1; } fn l() { try { try { return 1; } on x { } } on x { } }", 99, "9 14 1 6 0 2 0");
        BENCH.tells("fn k() { try { l(); raise 1; } on x { } } fn l() { try { return 1; } on x { } }", 99, "0 -1 0 6 300 2 1");
        BENCH.tells("fn k() { try { raise 1; } on x { } raise 2; }", 99, "9 35 2 3 300 1 1");
    }

    private static void fuel() {
        String text = "fn k() { x = 1 + 2; say x; }";
        BENCH.tells(text, 1, "10 15 0 1 0 1 0");
        BENCH.tells(text, 2, "10 20 0 2 0 1 0");
        BENCH.tells(text, 3, "0 -1 0 3 0 1 0");
        BENCH.tells("fn k() { while (1) { } }", 20000, "10 9 0 20000 0 1 0");
        BENCH.tells("fn k() { try { while (1) { } } on x { } }", 50, "10 15 0 50 0 1 0");
        BENCH.tells("fn k() { each(l, [1]); } fn l(x) { }", 3, "10 9 0 3 5 1 0");
        BENCH.tells("fn k() { each(l, [1]); } fn l(x) { }", 2, "10 9 0 2 5 1 0");
        BENCH.tells("fn k() { each(l, [1]); } fn l(x) { }", 1, "10 17 0 1 0 1 0");
        BENCH.tells("fn k() { x = l(1); } fn l(x) { }", 1, "10 13 0 1 0 1 0");
        BENCH.tells("fn k() { for x in 3 { } }", 3, "10 9 0 3 0 1 0");
    }

    private static void tooMuch() {
        // 44 times 68 are 2,992.
        BENCH.tells("fn k() { for x in 44 { row(64); } row(4); }", 20000, "0 -1 0 136 3000 1 0");
        BENCH.tells("fn k() { for x in 44 { row(64); } row(5); }", 20000, "11 34 0 136 3001 1 0");
        BENCH.tells("fn k() { for x in 44 { row(64); } row(65); }", 20000, "2 34 0 136 2992 1 0");
        BENCH.tells("fn k() { for x in 44 { row(64); } x = iota(4); while (1) { y = 5; } }", 500, "10 59 0 500 3000 1 0");
    }
}
