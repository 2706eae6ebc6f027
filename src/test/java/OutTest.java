/** Promises 8, 9 and 10: out, outs, show; and the FORMS of things. */
public final class OutTest {
    private static final Bench BENCH = new Bench("OutTest");

    public static void main(String[] args) {
        forms();
        saying();
        whicheverWasLater();
        showRefuses();
        theFirstSixHundred();
        BENCH.end();
    }

    private static void forms() {
        String[][] due = {{"0", "0"}, {"-5", "-5"}, {"2147483647", "2147483647"}, {"-2147483647 - 1", "-2147483648"}, {"10", "10"},
            {"[]", "[]"}, {"[1]", "[1]"}, {"[1, -2, 30]", "[1 -2 30]"}, {"rows([])", "{}"}, {"[[]]", "{[]}"}, {"[[1, 2], [], [3]]", "{[1 2][][3]}"},
            {"box()", "()"}, {"box(box())", "(())"}, {"box(1, [2, 3], [[4]], box(5, 6))", "(1;[2 3];{[4]};(5;6))"}};
        for (String[] d : due) {
            TallySlate x = Bench.loaded("fn k() { a = " + d[0] + "; say a; }");
            BENCH.due("run", x.run(0, -1, 99), 0);
            BENCH.due("say " + d[0], Bench.kept(x), d[1] + "\n");
            BENCH.due("outs()", x.outs(), d[1].length() + 1);
            BENCH.due("show of " + d[0], x.show(0), d[1].length());
            BENCH.due("FORM of " + d[0], Bench.kept(x), d[1]);
            BENCH.due("outs()", x.outs(), d[1].length());
        }
    }

    private static void saying() {
        TallySlate x = Bench.loaded("fn k() { say 1; l(); say [2]; } fn l() { say box(); } fn m() { say 5; raise 1; } fn n() { }"
                + " fn o() { try { say 1; raise 1; } on x { say 2; } }");
        x.run(0, -1, 99);
        BENCH.due("said", Bench.kept(x), "1\n()\n[2]\n");
        BENCH.due("out(0)", x.out(0), '1');
        BENCH.due("out(1)", x.out(1), 10);
        BENCH.due("out(8)", x.out(8), 10);
        BENCH.due("out(9)", x.out(9), -1);
        BENCH.due("out(-1)", x.out(-1), -1);
        BENCH.due("out(least)", x.out(Integer.MIN_VALUE), -1);
        BENCH.due("out(greatest)", x.out(Integer.MAX_VALUE), -1);
        BENCH.due("run with trouble", x.run(2, -1, 99), 9);
        BENCH.due("said ahead of the trouble", Bench.kept(x), "5\n");
        x.run(4, -1, 99);
        BENCH.due("said around a trouble", Bench.kept(x), "1\n2\n");
        BENCH.due("run that says nothing", x.run(3, -1, 99), 0);
        BENCH.due("outs()", x.outs(), 0);
        BENCH.due("out(0)", x.out(0), -1);
    }

    private static void whicheverWasLater() {
        TallySlate x = Bench.loaded("fn k() { say 7; } fn l(x) { }");
        x.set(0, 12345);
        x.run(0, -1, 9);
        BENCH.due("said", Bench.kept(x), "7\n");
        BENCH.due("show(0)", x.show(0), 5);
        BENCH.due("shown", Bench.kept(x), "12345");
        x.run(1, -1, 9);
        BENCH.due("behind a run of NONE", Bench.kept(x), "12345");
        x.set(0, 1);
        BENCH.due("a set changes nothing there", Bench.kept(x), "12345");
        x.run(0, -1, 9);
        BENCH.due("said again", Bench.kept(x), "7\n");
    }

    private static void showRefuses() {
        TallySlate x = new TallySlate();
        x.set(3, 44);
        x.show(3);
        int[] wrong = {0, 7, -1, 8, Integer.MAX_VALUE, Integer.MIN_VALUE};
        for (int shelf : wrong) {
            BENCH.due("show(" + shelf + ")", x.show(shelf), -1);
            BENCH.due("OUT stays", Bench.kept(x), "44");
            BENCH.due("outs() stays", x.outs(), 2);
        }
        x.clear(3);
        BENCH.due("show of a cleared one", x.show(3), -1);
        BENCH.due("OUT stays", Bench.kept(x), "44");
    }

    private static void theFirstSixHundred() {
        // A row of 64 INTS -2147483648 has 64 times 11 bytes, 63 blanks and 2 brackets.
        TallySlate x = Bench.loaded("fn k() { a = row(64) - 2147483647 - 1; say a; say a; } fn l() { for x in 300 { say 1; } }"
                + " fn m() { for x in 301 { say 1; } } fn n() { while (1) { say 5; } }");
        x.run(0, -1, 99);
        int length = 64 * 11 + 63 + 2;
        BENCH.due("outs()", x.outs(), 2 * (length + 1));
        BENCH.due("out(599)", x.out(599), ("[" + "-2147483648 ".repeat(64)).charAt(599));
        BENCH.due("out(600)", x.out(600), -1);
        BENCH.due("kept", Bench.kept(x).length(), 600);
        BENCH.due("show(0)", x.show(0), length);
        BENCH.due("outs()", x.outs(), length);
        BENCH.due("kept", Bench.kept(x), ("[" + "-2147483648 ".repeat(64)).substring(0, 600));
        x.run(1, -1, 20000);
        BENCH.due("outs()", x.outs(), 600);
        BENCH.due("out(599)", x.out(599), 10);
        x.run(2, -1, 20000);
        BENCH.due("outs()", x.outs(), 602);
        BENCH.due("out(599)", x.out(599), 10);
        BENCH.due("out(600)", x.out(600), -1);
        BENCH.due("run without end", x.run(3, -1, 20000), 10);
        BENCH.due("outs()", x.outs(), 2 * 9999);
        BENCH.due("out(598)", x.out(598), '5');
    }
}
