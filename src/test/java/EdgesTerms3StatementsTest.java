/** The edges that part 3 of the document's terms names, sentence by sentence: what STATEMENTS do, and FORMS. */
public final class EdgesTerms3StatementsTest {
    private static final Bench BENCH = new Bench("EdgesTerms3StatementsTest");
    private static final int NONE = TallySlate.NONE;

    public static void main(String[] args) {
        nHasThat();
        bareAtN();
        puttingKinds();
        puttingNowhere();
        puttingTooMuch();
        whatDiffersThere();
        ifAndWhile();
        forOfThings();
        forOfInts();
        forHasNoKind();
        saying();
        returning();
        raising();
        oneToNineAreTaken();
        tenAndElevenAreNot();
        whatATryEnds();
        nothingIsLeftBehind();
        manyTries();
        takenIs300();
        whatNHas();
        whatWasPutStays();
        formsOfInts();
        formsOfOthers();
        BENCH.end();
    }

    private static void trouble(String statements, int kind) {
        BENCH.trouble("fn k() { " + statements + " }", kind);
    }

    private static void nHasThat() {
        BENCH.sentence("Terms 3", "N = E: N has that.");
        String[][] things = {{"0", "0"}, {"[]", "[]"}, {"rows([])", "{}"}, {"box()", "()"}};
        for (String[] t : things) {
            BENCH.gives("fn k() { x = 5; x = " + t[0] + "; return x; }", t[1]);
            BENCH.gives("fn k() { h = 5; h = " + t[0] + "; return h; }", t[1]);
            BENCH.gives("fn k() { return l(5); } fn l(x) { x = " + t[0] + "; y = x; x = 5; return y; }", t[1]);
        }
    }

    private static void bareAtN() {
        BENCH.sentence("Terms 3", "E1, E2, E are worked out; BARE (at N)");
        trouble("^x[0] = 1;", 7);
        trouble("^x[0][0] = 1;", 7);
        trouble("^a[0] = 1;", 7);
        trouble("x[1 ^/ 0] = y;", 6);
        trouble("x[0] = 1 ^/ 0;", 6);
        trouble("x[^y][1 / 0] = 1;", 7);
        trouble("x[0][1 ^/ 0] = y;", 6);
        trouble("x[0] = ^x;", 7);
        trouble("^x[box()] = [[]];", 7);
    }

    private static void puttingKinds() {
        BENCH.sentence("Terms 3", "then N must have a ROW, E1 and E be INTS; or a TABLE, E1 an INT, E a ROW; or (two E) a TABLE, all three INTS;"
                + " or (one E) a PACK, E1 an INT; KIND otherwise");
        String[] things = {"0", "[0]", "[[0]]", "box(0)"};
        for (int n = 0; n < 4; n++) {
            for (int i = 0; i < 4; i++) {
                for (int e = 0; e < 4; e++) {
                    boolean fits = i == 0 && (n == 1 && e == 0 || n == 2 && e == 1 || n == 3);
                    puts("x = " + things[n] + "; x^[" + things[i] + "] = " + things[e] + ";", fits);
                    for (int j = 0; j < 4; j++) {
                        boolean both = n == 2 && i == 0 && j == 0 && e == 0;
                        puts("x = " + things[n] + "; x^[" + things[i] + "][" + things[j] + "] = " + things[e] + ";", both);
                    }
                }
            }
        }
    }

    private static void puts(String statements, boolean fits) {
        if (fits) {
            BENCH.gives("fn k() { " + Bench.plain(statements) + " }", "0");
        } else {
            trouble(statements, 3);
        }
    }

    private static void puttingNowhere() {
        BENCH.sentence("Terms 3", "PLACE if E1 is none, (at the second [) E2");
        String[] none = {"3", "-1", "64", "2147483647", "-2147483647 - 1"};
        for (String at : none) {
            trouble("x = [5, 6, 7]; x^[" + at + "] = 1;", 5);
            trouble("x = [[5], [6], [7]]; x^[" + at + "] = [1];", 5);
            trouble("x = box(5, 6, 7); x^[" + at + "] = 1;", 5);
            trouble("x = [[5, 6, 7]]; x[0]^[" + at + "] = 1;", 5);
            trouble("x = [[5, 6, 7]]; x^[" + at + "][0] = 1;", 5);
            trouble("x = [[5, 6, 7]]; x^[" + at + "][" + at + "] = 1;", 5);
        }
        trouble("x = []; x^[0] = 1;", 5);
        trouble("x = rows([]); x^[0] = [];", 5);
        trouble("x = box(); x^[0] = 1;", 5);
        trouble("x = [[]]; x[0]^[0] = 1;", 5);
        trouble("x = [1]; x^[9] = [1];", 3);
    }

    private static void puttingTooMuch() {
        BENCH.sentence("Terms 3", "GREAT; N has a new THING that differs there. (All but these two at the first [.)");
        trouble("x = rows([64, 64, 64, 8]); x^[3] = row(9);", 2);
        trouble("x = rows([64, 64, 64, 8]); x^[4] = row(9);", 5);
        trouble("x = box(0); x^[0] = box(box(box(box())));", 2);
        trouble("x = join(box(iota(64))[row(9)], 0); x^[9] = iota(14);", 2);
        BENCH.gives("fn k() { x = join(box(iota(64))[row(9)], 0); x[9] = iota(13); return size(x); }", "10");
        BENCH.trouble("fn k() { x = row(64); for y in 99 { x^[y] = 1; } }", 11);
        BENCH.trouble("fn k() { x = [row(64)]; for y in 99 { x^[0][y] = 1; } }", 11);
    }

    private static void whatDiffersThere() {
        BENCH.sentence("Terms 3", "N has a new THING that differs there.");
        BENCH.gives("fn k() { x = [1, 2, 3]; x[0] = 7; x[2] = 9; return x; }", "[7 2 9]");
        BENCH.gives("fn k() { x = [[1], [2], [3]]; x[0] = []; x[2] = [8, 9]; return x; }", "{[][2][8 9]}");
        BENCH.gives("fn k() { x = [[1, 2], [3, 4]]; x[0][0] = 7; x[1][1] = 9; return x; }", "{[7 2][3 9]}");
        BENCH.gives("fn k() { x = box(1, 2, 3); x[0] = []; x[2] = box(); return x; }", "([];2;())");
        BENCH.gives("fn k() { a = [1]; a[0] = 2; return a; }", "[2]");
        BENCH.gives("fn k() { x = row(3); for y in 3 { x[y] = y + 5; } return x; }", "[5 6 7]");
        BENCH.gives("fn k() { x = grid(2, 2); for y in 2 { for z in 2 { x[y][z] = y * 2 + z; } } return x; }", "{[0 1][2 3]}");
    }

    private static void ifAndWhile() {
        BENCH.sentence("Terms 3", "if, while: an INT, KIND otherwise; whether it is not 0.");
        String[] ints = {"1", "-1", "256", "65536", "2147483647", "-2147483647 - 1"};
        for (String n : ints) {
            BENCH.gives("fn k() { if (" + n + ") { return 1; } else { return 2; } }", "1");
            BENCH.gives("fn k() { while (" + n + ") { return 1; } return 2; }", "1");
        }
        BENCH.gives("fn k() { if (0) { return 1; } else { return 2; } }", "2");
        BENCH.gives("fn k() { if (0) { return 1; } return 3; }", "3");
        BENCH.gives("fn k() { x = 1; if (x) { x = 2; } else { x = 3; } if (0) { x = 4; } else { x = x * 5; } return x; }", "10");
        BENCH.gives("fn k() { while (0) { return 1; } return 2; }", "2");
        String[] others = {"[]", "[0]", "[1]", "[[1]]", "box(1)", "box()"};
        for (String other : others) {
            trouble("^if (" + other + ") { }", 3);
            trouble("^while (" + other + ") { }", 3);
        }
    }

    private static void forOfThings() {
        BENCH.sentence("Terms 3", "for: a ROW, TABLE, PACK, of which N has each INT, ROW, THING, in order");
        BENCH.gives("fn k() { y = box(); for x in [7, 8] { y = join(y, box(x)); } return y; }", "(7;8)");
        BENCH.gives("fn k() { y = box(); for x in [[7], []] { y = join(y, box(x)); } return y; }", "([7];[])");
        BENCH.gives("fn k() { y = box(); for x in box(7, [8], box()) { y = join(y, box(x)); } return y; }", "(7;[8];())");
        String[] none = {"[]", "rows([])", "box()"};
        for (String thing : none) {
            BENCH.gives("fn k() { x = 5; for x in " + thing + " { return 9; } return x; }", "5");
            trouble("for x in " + thing + " { } return ^x;", 7);
        }
        BENCH.gives("fn k() { for x in iota(64) { y = x; } return y; }", "63");
    }

    private static void forOfInts() {
        BENCH.sentence("Terms 3", "or an INT n (SIZE if below 0): N has 0 to n - 1.");
        BENCH.gives("fn k() { y = []; for x in 3 { y = join(y, x); } return y; }", "[0 1 2]");
        BENCH.gives("fn k() { for x in 1 { y = x; } return y; }", "0");
        BENCH.gives("fn k() { for x in 1000 { } return x; }", "999");
        trouble("for x in 0 { } return ^x;", 7);
        trouble("^for x in -1 { }", 1);
        trouble("^for x in -2147483647 - 1 { }", 1);
        trouble("^for x in 2147483647 { }", 10);
    }

    private static void forHasNoKind() {
        BENCH.sentence("Terms 3", "KIND does not come else.");
        BENCH.gives("fn k() { for x in 0 { } for x in [] { } for x in [[]] { } for x in box(box()) { } return x; }", "()");
    }

    private static void saying() {
        BENCH.sentence("Terms 3", "say: the THING's FORM and a 10 come to OUT.");
        TallySlate x = Bench.loaded("fn k() { say []; say -1; say rows([]); say box(); }");
        x.run(0, NONE, 99);
        BENCH.due("said", Bench.kept(x), "[]\n-1\n{}\n()\n");
        BENCH.due("outs()", x.outs(), 12);
    }

    private static void returning() {
        BENCH.sentence("Terms 3", "return: what the CALL gives; without one 0.");
        BENCH.gives("fn k() { }", "0");
        BENCH.gives("fn k() { x = 5; }", "0");
        BENCH.gives("fn k() { return l() + 1; } fn l() { if (0) { return 5; } }", "1");
        BENCH.gives("fn k() { for x in 3 { while (1) { try { return x; } on y { } } } }", "0");
        BENCH.gives("fn k() { return box(); return 1; }", "()");
    }

    private static void raising() {
        BENCH.sentence("Terms 3", "raise: an INT (KIND): RAISED.");
        trouble("^raise 0;", 9);
        trouble("^raise -2147483647 - 1;", 9);
        trouble("^raise [];", 3);
        trouble("^raise [1];", 3);
        trouble("^raise [[1]];", 3);
        trouble("^raise box(1);", 3);
        BENCH.tells("fn k() { raise [5]; }", 99, "3 9 0 2 5 1 0");
    }

    private static void oneToNineAreTaken() {
        BENCH.sentence("Terms 3", "try: TROUBLE 1 to 9 in its BLOCK, and in all that is CALLED from there, ends that; it is TAKEN");
        String[] troubles = {"row(-1);", "row(65);", "row([]);", "x = row(1) + row(2);", "x = [][0];", "x = 1 / 0;", "x = y;", "m();", "raise 9;"};
        for (int i = 0; i < 9; i++) {
            String kind = Integer.toString(i + 1);
            BENCH.gives("fn k() { try { " + troubles[i] + " return 99; } on z { return z; } } fn m() { m(); }", kind);
            BENCH.gives("fn k() { try { l(); return 99; } on z { return z; } } fn l() { " + troubles[i] + " } fn m() { m(); }", kind);
            BENCH.gives("fn k() { try { each(l, [1]); return 99; } on z { return z; } } fn l(w) { " + troubles[i] + " } fn m() { m(); }", kind);
        }
    }

    private static void tenAndElevenAreNot() {
        BENCH.sentence("Terms 3", "TROUBLE 1 to 9");
        trouble("try { try { ^while (1) { } } on x { } } on x { }", 10);
        trouble("try { try { for y in 99 { x = ^row(64); } } on x { } } on x { }", 11);
        BENCH.tells("fn k() { try { while (1) { } } on x { } }", 50, "10 15 0 50 0 1 0");
    }

    private static void whatATryEnds() {
        BENCH.sentence("Terms 3", "ends that; it is TAKEN");
        BENCH.gives("fn k() { x = 1; try { x = 2; } on y { x = 3; } return x; }", "2");
        BENCH.gives("fn k() { try { try { raise 1; } on x { raise x + 1; } } on y { return y; } }", "2");
        trouble("try { raise 1; } on x { ^raise 2; }", 9);
        trouble("try { } on x { } ^raise 2;", 9);
        BENCH.tells("fn k() { try { } on x { } raise 2; }", 99, "9 26 2 2 0 1 0");
        BENCH.tells("fn k() { try { try { } on x { } raise 2; } on y { } }", 99, "0 -1 0 3 300 1 1");
        BENCH.tells("fn k() { l(); raise 2; } fn l() { try { return 1; } on x { } }", 99, "9 14 2 5 0 2 0");
        BENCH.tells("fn k() { try { l(); raise 2; } on x { } } fn l() { try { try { return 1; } on x { } } on x { } }", 99, "0 -1 0 7 300 2 1");
        BENCH.trouble("fn k() { l(); ^raise 2; } fn l() { try { return 1; } on x { } }", 9);
        BENCH.gives("fn k() { for x in 3 { try { for y in 5 { for z in [[3]] { raise y; } } } on z { } } return [x, y]; }", "[2 0]");
        BENCH.gives("fn k() { return [1, l(), 2]; } fn l() { try { return [1, 2, [3, 4 / 0]]; } on x { return x; } }", "[1 6 2]");
    }

    private static void nothingIsLeftBehind() {
        BENCH.sentence("Terms 3", "ends that");
        // Each of these is in the midst of a ROW, TABLE or PACK when the trouble comes.
        String[] halves = {"[5, 6][[0, 1, 2]]", "[[5], [6]][[0, 1, 2]]", "box(5, 6)[[0, 1, 2]]", "max([[5], [6], []])", "flat(box(5, [6], box()))",
            "[5, 6, [7]]", "[5, 6, 7 / 0]", "box(5, 6, y)", "l(5, y)", "[5, 6] / [1, 0]", "[[5], [6]] / [[1], [0]]", "each(m, [0, 0, 1])", "each(m, [1, 0])",
            "fold(l, 5, [6, 7])", "join(iota(64), 5)"};
        for (String half : halves) {
            BENCH.gives("fn k() { z = [3, 4]; try { x = 1 + " + half + "; } on x { } return box([8], z, [[9], []], box(8), 1 + [2]); }"
                    + " fn l(x, y) { return x[y]; } fn m(x) { if (x) { return x; } return []; }", "([8];[3 4];{[9][]};(8);[3])");
        }
    }

    private static void manyTries() {
        BENCH.sentence("Terms 3", "in its BLOCK, and in all that is CALLED from there");
        // Nine CALLS of l, each with six tries that are not ended, and a ROW that is half worked out.
        String text = "fn k() { l(8); } fn l(n) { " + "try { ".repeat(6) + "if (n) { x = [1, 2, l(n - 1)]; } return row(-1); "
                + "} on x { } ".repeat(6) + "say x; }";
        TallySlate x = Bench.loaded(text);
        BENCH.due("fault(0)", x.fault(0), 0);
        BENCH.due("run", x.run(0, NONE, 20000), 0);
        // Each CALL, from the innermost one on, has its trouble, takes it and says so.
        BENCH.due("TAKEN", x.trouble(6), 9);
        BENCH.due("said", Bench.kept(x), "1\n".repeat(9));
    }

    private static void takenIs300() {
        BENCH.sentence("Terms 3", "300 are MADE (11, at 'on', if that is too much; it was TAKEN all the same)");
        BENCH.tells("fn k() { try { raise 1; } on x { } }", 99, "0 -1 0 2 300 1 1");
        // 39 times 68 and 48 are 2,700.
        String text = "fn k() { for z in 39 { row(64); } row(44); try { raise 1; } on x { say x; } }";
        BENCH.tells(text, 999, "0 -1 0 124 3000 1 1");
        String more = text.replace("44", "45");
        BENCH.tells(more, 999, "11 " + more.indexOf("on x") + " 0 123 3001 1 1");
        TallySlate x = Bench.loaded(more);
        x.run(0, 0, 999);
        BENCH.due("the BLOCK behind isn't done", x.outs(), 0);
        BENCH.trouble("fn k() { z = []; for y in 10 { try { try { raise 1; } ^on x { } } on x { } } }", 11);
    }

    private static void whatNHas() {
        BENCH.sentence("Terms 3", "N has the kind, of RAISED the INT; the BLOCK behind is done.");
        BENCH.gives("fn k() { try { raise 0; } on x { return box(x); } }", "(0)");
        BENCH.gives("fn k() { try { raise -2147483647 - 1; } on x { return x; } }", "-2147483648");
        BENCH.gives("fn k() { try { raise 9; } on a { return a; } }", "9");
        BENCH.gives("fn k() { try { raise []; } on x { return x; } }", "3");
        BENCH.gives("fn k() { try { x = y; } on y { } return y; }", "7");
        trouble("try { } on x { } return ^x;", 7);
    }

    private static void whatWasPutStays() {
        BENCH.sentence("Terms 3", "What was put into N's stays.");
        BENCH.gives("fn k() { x = 1; try { x = 2; a = 3; y = [4]; y[0] = 5; raise 6; } on z { } return box(x, a, y, z); }", "(2;3;[5];6)");
        BENCH.gives("fn k() { a = 1; try { l(); } on z { } return a; } fn l() { a = 2; m(); } fn m() { a = 3; raise 1; }", "3");
        BENCH.gives("fn k() { try { for x in 5 { if (x == 3) { raise 7; } } } on z { } return [x, z]; }", "[3 7]");
        BENCH.gives("fn k() { x = [1]; try { x[0] = 1 / 0; } on z { } return x; }", "[1]");
    }

    private static void formsOfInts() {
        BENCH.sentence("Terms 3", "FORM: of an INT its digits, - ahead below 0");
        TallySlate x = new TallySlate();
        int[] ints = {0, 9, 10, -1, -9, -10, 1000000000, Integer.MAX_VALUE, -Integer.MAX_VALUE, Integer.MIN_VALUE};
        for (int n : ints) {
            x.set(0, n);
            BENCH.due("FORM of " + n, Bench.form(x, 0), Integer.toString(n));
        }
    }

    private static void formsOfOthers() {
        BENCH.sentence("Terms 3", "of a ROW [ and ], FORMS with a blank between; of a TABLE { and }, ROWS' FORMS with nothing between;"
                + " of a PACK ( and ), FORMS with ; between.");
        String[][] forms = {{"[]", "[]"}, {"[1]", "[1]"}, {"[1, -2, 3]", "[1 -2 3]"}, {"rows([])", "{}"}, {"[[]]", "{[]}"}, {"[[], [1, 2], []]", "{[][1 2][]}"},
            {"box()", "()"}, {"box(1)", "(1)"}, {"box(1, [], [[]], box(), [2, 3], [[4]])", "(1;[];{[]};();[2 3];{[4]})"},
            {"box(box(box(box(1, 2))))", "((((1;2))))"}};
        for (String[] f : forms) {
            BENCH.worth(f[0], f[1]);
        }
    }
}
