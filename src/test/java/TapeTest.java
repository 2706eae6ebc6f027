/** Promises 2 and 3: feed, load; and which text the object has then. */
public final class TapeTest {
    private static final Bench BENCH = new Bench("TapeTest");

    public static void main(String[] args) {
        feedCountsBytes();
        feedRefusesTheLast();
        highestByteFirst();
        loadRefuses();
        loadEmptiesTheTape();
        loadTakesTheFirstBytes();
        loadKeepsTheTextBefore();
        longTexts();
        BENCH.end();
    }

    private static void feedCountsBytes() {
        TallySlate x = new TallySlate();
        for (int i = 1; i <= 81; i++) {
            BENCH.due("feed " + i, x.feed(0, -1, 1, Integer.MIN_VALUE, 5), 20 * i);
        }
    }

    private static void feedRefusesTheLast() {
        TallySlate x = new TallySlate();
        for (int i = 1; i <= 81; i++) {
            x.feed(0x20202020, 0x20202020, 0x20202020, 0x20202020, 0x20202020);
        }
        BENCH.due("feed 82", x.feed(0, 0, 0, 0, 0), -1);
        BENCH.due("load(1621)", x.load(1621), -2);
        // The refused bytes did not come: the tape still is all blanks.
        BENCH.due("load(1600)", x.load(1600), 0);
        BENCH.due("feed when empty", x.feed(0, 0, 0, 0, 0), 20);
    }

    private static void highestByteFirst() {
        TallySlate x = new TallySlate();
        BENCH.due("feed", x.feed(0x666e206d, 0x61696e28, 0x297b7d20, 0x20202020, 0x20202024), 20);
        BENCH.due("load(19)", x.load(19), 1);
        BENCH.due("function(0, 2)", x.function(0, 2), 3);
        x.feed(0x666e206d, 0x61696e28, 0x297b7d20, 0x20202020, 0x20202024);
        BENCH.due("load(20)", x.load(20), -1);
        BENCH.due("fault(0)", x.fault(0), 1);
        BENCH.due("fault(1)", x.fault(1), 19);
        x.feed(0x666e206d, 0x61696e28, 0x297b7d20, 0x20202020, 0x20202080);
        BENCH.due("load(20) with a byte of 128", x.load(20), -1);
        BENCH.due("fault(1)", x.fault(1), 19);
    }

    private static void loadRefuses() {
        TallySlate x = new TallySlate();
        BENCH.due("load(-1)", x.load(-1), -2);
        BENCH.due("load(least)", x.load(Integer.MIN_VALUE), -2);
        BENCH.due("load(1)", x.load(1), -2);
        BENCH.due("fault(0)", x.fault(0), -1);
        String text = "fn k(x) { }         ";
        Bench.feed(x, text);
        BENCH.due("load(21)", x.load(21), -2);
        BENCH.due("load(greatest)", x.load(Integer.MAX_VALUE), -2);
        BENCH.due("load(20), the tape stayed", x.load(20), 1);
        BENCH.due("load(1)", x.load(1), -2);
        BENCH.due("fault(0) of the one before", x.fault(0), 0);
        BENCH.due("function(0, 0)", x.function(0, 0), 1);
    }

    private static void loadEmptiesTheTape() {
        TallySlate x = new TallySlate();
        Bench.feed(x, "fn k() {}           ");
        BENCH.due("load(9)", x.load(9), 1);
        BENCH.due("load(1)", x.load(1), -2);
        BENCH.due("feed", Bench.feed(x, "fn k() {            "), 20);
        BENCH.due("load(20)", x.load(20), -1);
        BENCH.due("load(1) behind a fault", x.load(1), -2);
        BENCH.due("load(0)", x.load(0), 0);
    }

    private static void loadTakesTheFirstBytes() {
        TallySlate x = new TallySlate();
        Bench.feed(x, "fn k() {} fn l() {} $$$$");
        BENCH.due("load(19)", x.load(19), 2);
        Bench.feed(x, "fn k() {} fn l() {} $$$$");
        BENCH.due("load(9)", x.load(9), 1);
        Bench.feed(x, "fn k() {} fn l() {} $$$$");
        BENCH.due("load(18)", x.load(18), -1);
        BENCH.due("fault(0)", x.fault(0), 2);
        BENCH.due("fault(1)", x.fault(1), 18);
    }

    private static void loadKeepsTheTextBefore() {
        TallySlate x = Bench.loaded("fn k() { return 5; } fn l(x, y) { }");
        BENCH.due("load with a fault", Bench.load(x, "fn mm() { return 6; } fn"), -1);
        BENCH.due("function(1, 0)", x.function(1, 0), 2);
        BENCH.due("run(0, 0, 9)", x.run(0, 0, 9), 0);
        BENCH.due("cell(0, 0, 0)", x.cell(0, 0, 0), 5);
        BENCH.due("load with fault 6", Bench.load(x, "fn mm() { return nn(); }"), -1);
        BENCH.due("run(0, 0, 9)", x.run(0, 0, 9), 0);
        BENCH.due("cell(0, 0, 0)", x.cell(0, 0, 0), 5);
        BENCH.due("load of a third", Bench.load(x, "fn mm() { return 7; }"), 1);
        BENCH.due("function(1, 0)", x.function(1, 0), -1);
        BENCH.due("run(0, 0, 9)", x.run(0, 0, 9), 0);
        BENCH.due("cell(0, 0, 0)", x.cell(0, 0, 0), 7);
        BENCH.due("load(0)", x.load(0), 0);
        BENCH.due("run(0, 0, 9)", x.run(0, 0, 9), -1);
    }

    private static void longTexts() {
        String text = "fn k() { }" + " ".repeat(1590);
        TallySlate x = new TallySlate();
        BENCH.due("1600 bytes", Bench.load(x, text), 1);
        BENCH.due("1601 bytes", Bench.load(x, text + " "), -1);
        BENCH.due("fault(0)", x.fault(0), 1);
        BENCH.due("fault(1)", x.fault(1), 1600);
        BENCH.due("the tape is empty", x.load(1), -2);
        BENCH.due("the text before stays", x.function(0, 2), 3);
        BENCH.due("1620 bytes", Bench.load(x, text + " ".repeat(20)), -1);
        BENCH.due("fault(1)", x.fault(1), 1600);
        BENCH.due("a fault at the end", Bench.load(x, "fn k() {" + " ".repeat(1592)), -1);
        BENCH.due("fault(0)", x.fault(0), 2);
        BENCH.due("fault(1)", x.fault(1), 1600);
        StringBuilder most = new StringBuilder("fn k() { return ");
        while (most.length() < 1590) {
            most.append("1+");
        }
        most.append("1; }");
        BENCH.due("many signs", Bench.load(x, most.toString()), 1);
        BENCH.due("run", x.run(0, 0, 20000), 0);
        BENCH.due("their sum", x.cell(0, 0, 0), (1590 - 16) / 2 + 1);
    }
}
