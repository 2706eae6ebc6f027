/** The edges that promises 6 to 10 name, sentence by sentence: run, trouble, out, outs, show. */
public final class EdgesPromises6To10Test {
    private static final Bench BENCH = new Bench("EdgesPromises6To10Test");
    private static final int NONE = TallySlate.NONE;
    private static final int LEAST = Integer.MIN_VALUE;
    private static final int GREATEST = Integer.MAX_VALUE;
    // Statements that run into the troubles of kind 1 to 11.
    private static final String[] TROUBLES = {"row(-1);", "row(65);", "row([]);", "x = row(1) + row(2);", "x = [][0];", "x = 1 / 0;", "x = y;", "l();",
        "raise 5;", "while (1) { }", "for x in 45 { row(64); }"};
    private static final int[] NO_SHELVES = {LEAST, NONE, 8, 9, GREATEST};

    public static void main(String[] args) {
        whereItComes();
        shelvesAsAhead();
        runRefuses();
        troubleOfLatestRun();
        kindOfTrouble();
        placeWithout();
        raisedInt();
        stepsDone();
        madeTooMuch();
        mostCalls();
        howManyTaken();
        troubleOfOthers();
        whicheverWasLater();
        noSuchByte();
        sixHundredAreKept();
        allAreCounted();
        shownBytes();
        showRefuses();
        BENCH.end();
    }

    private static void whereItComes() {
        BENCH.sentence("Promise 6", "FUNCTION f runs; what it gives comes to a SHELF (0 .. 7 are a .. h), or nowhere (NONE): 0");
        TallySlate x = Bench.loaded("fn k() { return 5; } fn l() { return [a, b, c, d, e, f, g, h]; }");
        BENCH.due("run(0, NONE, 9)", x.run(0, NONE, 9), 0);
        BENCH.due("all are bare still", x.sum(), new TallySlate().sum());
        for (int shelf = 0; shelf < 8; shelf++) {
            BENCH.due("run(0, " + shelf + ", 9)", x.run(0, shelf, 9), 0);
            BENCH.due("cell", x.cell(shelf, 0, 0), 5);
            BENCH.due("the one behind is bare", x.kind(shelf + 1), NONE);
        }
        x.set(0, 1);
        x.set(7, 8);
        BENCH.due("run(1, 3, 9)", x.run(1, 3, 9), 0);
        BENCH.due("d", Bench.form(x, 3), "[1 5 5 5 5 5 5 8]");
    }

    private static void shelvesAsAhead() {
        BENCH.sentence("Promise 6", "or the kind of a TROUBLE that wasn't TAKEN (all SHELVES are then as ahead of it).");
        for (int i = 0; i < TROUBLES.length; i++) {
            TallySlate x = Bench.loaded("fn k() { a = [9]; b[0] = 9; h = box(); try { c = 9; raise 1; } on d { } " + TROUBLES[i]
                    + " } fn l() { l(); }");
            x.set(0, 1);
            x.add(1, 2);
            long before = x.sum();
            BENCH.due("run with " + TROUBLES[i], x.run(0, 6, 2000), i + 1);
            BENCH.due("sum() behind " + TROUBLES[i], x.sum(), before);
        }
        TallySlate x = Bench.loaded("fn k() { try { a = 4; raise 1; } on z { } return 6; }");
        BENCH.due("run with a trouble that is taken", x.run(0, 1, 99), 0);
        BENCH.due("a", x.cell(0, 0, 0), 4);
        BENCH.due("b", x.cell(1, 0, 0), 6);
    }

    private static void runRefuses() {
        BENCH.sentence("Promise 6", "NONE if there is no such one without PARAMETERS, no such SHELF, or fuel is not 1 .. 20,000.");
        TallySlate x = Bench.loaded("fn k() { } fn l(x) { } fn m(x, y, z, i) { } fn n() { }");
        int[] functions = {LEAST, -2, NONE, 1, 2, 4, 12, GREATEST};
        for (int f : functions) {
            BENCH.due("run(" + f + ", 0, 9)", x.run(f, 0, 9), NONE);
        }
        int[] shelves = {LEAST, -2, 8, 9, GREATEST};
        for (int shelf : shelves) {
            BENCH.due("run(0, " + shelf + ", 9)", x.run(0, shelf, 9), NONE);
        }
        int[] fuels = {LEAST, -20000, NONE, 0, 20001, GREATEST};
        for (int fuel : fuels) {
            BENCH.due("run(0, 0, " + fuel + ")", x.run(0, 0, fuel), NONE);
        }
        BENCH.due("nothing has run", x.trouble(0), NONE);
        BENCH.due("all are bare", x.sum(), new TallySlate().sum());
        BENCH.due("run(0, 0, 1)", x.run(0, 0, 1), 0);
        BENCH.due("run(3, 7, 20000)", x.run(3, 7, 20000), 0);
    }

    private static void troubleOfLatestRun() {
        BENCH.sentence("Promise 7", "Of the latest run() that wasn't NONE");
        TallySlate x = Bench.loaded("fn k() { raise 5; } fn l() { } fn m(x) { }");
        x.run(0, 0, 9);
        x.run(2, 0, 9);
        x.run(0, 0, 0);
        BENCH.due("behind a NONE", Bench.troubles(x), "9 9 5 1 0 1 0");
        x.run(1, 0, 9);
        BENCH.due("behind one without", Bench.troubles(x), "0 -1 0 0 0 1 0");
        TallySlate y = Bench.loaded("fn k() { try { l(); } on x { } } fn l() { y = row(9); raise 1; } fn m() { raise 2; }"
                + " fn n() { try { while (1) { } } on x { } }");
        y.run(0, 0, 9);
        BENCH.due("of one with much to tell", Bench.troubles(y), "0 -1 0 6 313 2 1");
        y.run(2, 0, 9);
        BENCH.due("of the next one", Bench.troubles(y), "9 74 2 1 0 1 0");
        y.run(3, 0, 9);
        y.run(2, 0, 9);
        BENCH.due("of one behind a try that never ended", Bench.troubles(y), "9 74 2 1 0 1 0");
        Bench.load(x, "fn k() { }");
        BENCH.due("behind a load", Bench.troubles(x), "0 -1 0 0 0 1 0");
    }

    private static void kindOfTrouble() {
        BENCH.sentence("Promise 7", "0 the TROUBLE's kind");
        for (int i = 0; i < TROUBLES.length; i++) {
            TallySlate x = Bench.loaded("fn k() { " + TROUBLES[i] + " } fn l() { l(); } fn m() { }");
            BENCH.due("run with " + TROUBLES[i], x.run(0, NONE, 2000), i + 1);
            BENCH.due("trouble(0) of " + TROUBLES[i], x.trouble(0), i + 1);
            x.run(2, NONE, 2000);
            BENCH.due("trouble(0) without", x.trouble(0), 0);
        }
    }

    private static void placeWithout() {
        BENCH.sentence("Promise 7", "1 its place (NONE without)");
        TallySlate x = Bench.loaded("fn k() { try { raise 5; } on x { } } fn l() { raise 1; }");
        x.run(1, 0, 9);
        BENCH.due("place of a trouble", x.trouble(1), 46);
        x.run(0, 0, 9);
        BENCH.due("place without, one was taken", x.trouble(1), NONE);
        BENCH.due("kind without", x.trouble(0), 0);
    }

    private static void raisedInt() {
        BENCH.sentence("Promise 7", "2 the INT of a RAISED one (else 0)");
        BENCH.tells("fn k() { raise 2147483647; }", 9, "9 9 2147483647 1 0 1 0");
        BENCH.tells("fn k() { raise -2147483647 - 1; }", 9, "9 9 -2147483648 3 0 1 0");
        BENCH.tells("fn k() { raise 0; }", 9, "9 9 0 1 0 1 0");
        BENCH.tells("fn k() { try { raise 7; } on x { } }", 9, "0 -1 0 2 300 1 1");
        BENCH.tells("fn k() { try { raise 7; } on x { } y = 1 / 0; }", 9, "6 41 0 4 300 1 1");
        BENCH.tells("fn k() { raise []; }", 9, "3 9 0 2 4 1 0");
        for (int i = 0; i < TROUBLES.length; i++) {
            TallySlate x = Bench.loaded("fn k() { try { raise 8; } on x { } " + TROUBLES[i] + " } fn l() { l(); }");
            x.run(0, NONE, 2000);
            BENCH.due("trouble(2) of " + TROUBLES[i], x.trouble(2), i + 1 == 9 ? 5 : 0);
        }
    }

    private static void stepsDone() {
        BENCH.sentence("Promise 7", "3 STEPS done");
        BENCH.tells("fn k() { }", 1, "0 -1 0 0 0 1 0");
        BENCH.tells("fn k() { x = 1; y = 2; }", 2, "0 -1 0 2 0 1 0");
        BENCH.tells("fn k() { x = 1; y = 2; }", 1, "10 16 0 1 0 1 0");
        BENCH.tells("fn k() { while (1) { } }", 20000, "10 9 0 20000 0 1 0");
        BENCH.tells("fn k() { x = row(-1); }", 3, "1 13 0 3 0 1 0");
    }

    private static void madeTooMuch() {
        BENCH.sentence("Promise 7", "4 MADE (what was too much, too)");
        BENCH.tells("fn k() { for x in 44 { row(64); } row(4); }", 999, "0 -1 0 136 3000 1 0");
        BENCH.tells("fn k() { for x in 44 { row(64); } row(5); }", 999, "11 34 0 136 3001 1 0");
        BENCH.tells("fn k() { for x in 44 { row(64); } grid(20, 10); }", 999, "11 34 0 136 3276 1 0");
    }

    private static void mostCalls() {
        BENCH.sentence("Promise 7", "5 the most CALLS at one time that were not ended");
        BENCH.tells("fn k() { l(); l(); m(); } fn l() { m(); } fn m() { }", 99, "0 -1 0 10 0 3 0");
        BENCH.tells("fn k() { l(8); l(2); } fn l(n) { if (n) { l(n - 1); } }", 99, "0 -1 0 46 0 10 0");
    }

    private static void howManyTaken() {
        BENCH.sentence("Promise 7", "6 how many TROUBLES were TAKEN.");
        BENCH.tells("fn k() { try { } on x { } }", 99, "0 -1 0 1 0 1 0");
        BENCH.tells("fn k() { for x in 10 { try { raise x; } on y { } } }", 99, "0 -1 0 32 3000 1 10");
        BENCH.tells("fn k() { for x in 11 { try { raise x; } on y { } } }", 99, "11 40 0 34 3300 1 11");
        BENCH.tells("fn k() { try { raise 1; } on x { raise 2; } }", 99, "9 33 2 3 300 1 1");
    }

    private static void troubleOfOthers() {
        BENCH.sentence("Promise 7", "NONE for others, and ahead of any.");
        TallySlate x = Bench.loaded("fn k() { } fn l(x) { }");
        x.run(1, 0, 9);
        for (int what = -2; what < 9; what++) {
            BENCH.due("trouble(" + what + ") ahead of any", x.trouble(what), NONE);
        }
        x.run(0, 0, 9);
        int[] others = {LEAST, -2, NONE, 7, 8, GREATEST};
        for (int what : others) {
            BENCH.due("trouble(" + what + ")", x.trouble(what), NONE);
        }
        BENCH.due("trouble(6)", x.trouble(6), 0);
    }

    private static void whicheverWasLater() {
        BENCH.sentence("Promise 8", "Byte k of OUT: what was said in the latest run() that wasn't NONE, or the FORM of the latest show()"
                + " (whichever was later)");
        TallySlate x = Bench.loaded("fn k() { say 7; } fn l(x) { } fn m() { } fn n() { say 8; raise 1; }");
        x.set(0, 12345);
        x.run(0, NONE, 9);
        x.run(1, NONE, 9);
        x.show(1);
        BENCH.due("behind a run and a show of NONE", Bench.kept(x), "7\n");
        x.show(0);
        BENCH.due("show is later", Bench.kept(x), "12345");
        x.run(3, NONE, 9);
        BENCH.due("a run with trouble is later", Bench.kept(x), "8\n");
        x.show(0);
        x.run(2, NONE, 9);
        BENCH.due("a run that said nothing is later", Bench.kept(x), "");
        BENCH.due("outs()", x.outs(), 0);
    }

    private static void noSuchByte() {
        BENCH.sentence("Promise 8", "NONE if there is none such.");
        TallySlate x = Bench.loaded("fn k() { say 7; }");
        BENCH.due("out(0) of a new one", x.out(0), NONE);
        x.run(0, NONE, 9);
        int[] none = {LEAST, -2, NONE, 2, 3, 599, 600, GREATEST};
        for (int k : none) {
            BENCH.due("out(" + k + ")", x.out(k), NONE);
        }
        BENCH.due("out(0)", x.out(0), '7');
        BENCH.due("out(1)", x.out(1), 10);
    }

    private static void sixHundredAreKept() {
        BENCH.sentence("Promise 8", "Its first 600 are kept.");
        TallySlate x = Bench.loaded("fn k() { for x in 299 { say 1; } say 23; } fn l() { for x in 299 { say 1; } say 4; }"
                + " fn m() { a = row(64) - 2147483647 - 1; }");
        x.run(0, NONE, 2000);
        BENCH.due("out(598) of 601", x.out(598), '2');
        BENCH.due("out(599) of 601", x.out(599), '3');
        BENCH.due("out(600) of 601", x.out(600), NONE);
        x.run(1, NONE, 2000);
        BENCH.due("out(599) of 600", x.out(599), 10);
        BENCH.due("out(600) of 600", x.out(600), NONE);
        x.run(2, NONE, 99);
        x.show(0);
        BENCH.due("out(599) of a FORM", x.out(599), ("[" + "-2147483648 ".repeat(64)).charAt(599));
        BENCH.due("out(600) of a FORM", x.out(600), NONE);
    }

    private static void allAreCounted() {
        BENCH.sentence("Promise 9", "How many bytes came to OUT (those that weren't kept, too).");
        TallySlate x = Bench.loaded("fn k() { for x in a { say 1; } } fn l() { while (1) { say 5; } }");
        BENCH.due("outs() of a new one", x.outs(), 0);
        int[] times = {0, 1, 299, 300, 301, 400};
        for (int n : times) {
            x.set(0, n);
            x.run(0, NONE, 2000);
            BENCH.due("outs() of " + n + " times two", x.outs(), 2 * n);
        }
        x.run(1, NONE, 20000);
        BENCH.due("outs() of a run until the fuel ends", x.outs(), 19998);
    }

    private static void shownBytes() {
        BENCH.sentence("Promise 10", "OUT is the FORM of what a SHELF has: how many bytes");
        TallySlate x = Bench.loaded("fn k() { a = row(64) - 2147483647 - 1; h = box(); }");
        x.run(0, NONE, 99);
        BENCH.due("show(0), beyond 600", x.show(0), 64 * 11 + 63 + 2);
        BENCH.due("outs()", x.outs(), 64 * 11 + 63 + 2);
        BENCH.due("show(7)", x.show(7), 2);
        BENCH.due("OUT", Bench.kept(x), "()");
    }

    private static void showRefuses() {
        BENCH.sentence("Promise 10", "NONE (OUT stays) if it is BARE, or there is none such.");
        TallySlate x = new TallySlate();
        BENCH.due("show(0) of a new one", x.show(0), NONE);
        x.set(3, 44);
        x.set(4, 5);
        x.show(3);
        x.clear(4);
        BENCH.due("show(4), cleared", x.show(4), NONE);
        BENCH.due("OUT stays", Bench.kept(x), "44");
        for (int shelf : NO_SHELVES) {
            BENCH.due("show(" + shelf + ")", x.show(shelf), NONE);
            BENCH.due("OUT stays", Bench.kept(x), "44");
            BENCH.due("outs() stays", x.outs(), 2);
        }
    }
}
