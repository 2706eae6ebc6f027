/** The edges that promises 1 to 5 name, sentence by sentence: a new object, feed, load, fault, function. */
public final class EdgesPromises1To5Test {
    private static final Bench BENCH = new Bench("EdgesPromises1To5Test");
    private static final int NONE = TallySlate.NONE;
    private static final int LEAST = Integer.MIN_VALUE;
    private static final int GREATEST = Integer.MAX_VALUE;
    private static final int BLANKS = 0x20202020;

    public static void main(String[] args) {
        theLastCall();
        refusedCallsChangeNothing();
        noneIsMinusOne();
        newObject();
        everyByteHasItsPlace();
        tapeIsFull();
        tapeIsEmptiedByLoad();
        bytesBehindAreNotRead();
        loadOfNothingAndOfTwelve();
        textBeforeStays();
        loadDoesNothing();
        moreThan1600();
        faultOfLatestLoad();
        faultWithout();
        faultOfOthers();
        functionOfEach();
        functionOfTheOnlyOne();
        functionOfOthers();
        BENCH.end();
    }

    private static void feedBlanks(TallySlate x, int times) {
        for (int i = 0; i < times; i++) {
            x.feed(BLANKS, BLANKS, BLANKS, BLANKS, BLANKS);
        }
    }

    /** An object with a text of two functions, a fault, a run, something said, shelves and a mark. */
    private static TallySlate busy() {
        TallySlate x = Bench.loaded("fn k() { say 7; raise 5; } fn l(x) { y = x; }");
        Bench.load(x, "fn k() {} $");
        x.set(0, 3);
        x.add(1, 4);
        x.run(0, 0, 9);
        x.mark();
        Bench.feed(x, "fn k() { }          ");
        return x;
    }

    private static void theLastCall() {
        BENCH.sentence("What it is", "An object is used for at most 512 calls after it has been made");
        TallySlate x = new TallySlate();
        for (int i = 0; i < 102; i++) {
            x.feed(0x666e206b, 0x2829207b, 0x20736179, 0x20393b20, 0x7d202020); // fn k() { say 9; }
            x.load(20);
            x.run(0, 3, 20000);
            x.add(2, i);
            x.mark();
        }
        BENCH.due("call 511", x.cell(2, 63, 0), 63);
        BENCH.due("call 512", x.mark(), 6);
    }

    private static void refusedCallsChangeNothing() {
        BENCH.sentence("Terms", "A call that is refused changes nothing.");
        TallySlate x = busy();
        for (int i = 0; i < 64; i++) {
            x.add(5, i);
        }
        String before = Bench.state(x);
        x.load(NONE);
        x.load(21);
        x.run(1, 0, 9);
        x.run(2, 0, 9);
        x.run(0, 8, 9);
        x.run(0, 0, 0);
        x.show(8);
        x.show(7);
        x.set(8, 1);
        x.add(8, 1);
        x.add(5, 64);
        x.clear(8);
        x.clear(7);
        BENCH.due("state behind refused calls", Bench.state(x), before);
        BENCH.due("out(0)", x.out(0), '7');
        BENCH.due("mark() behind refused calls", x.mark(), 2);
        x.back();
        x.back();
        String unmarked = Bench.state(x);
        BENCH.due("back() of nothing", x.back(), false);
        BENCH.due("state behind a refused back()", Bench.state(x), unmarked);
        BENCH.due("the tape behind refused calls", x.load(20), 1);
        feedBlanks(x, 81);
        BENCH.due("feed that is refused", x.feed(0, 0, 0, 0, 0), NONE);
        BENCH.due("all that is on the tape is blanks", x.load(1600), 0);
    }

    private static void noneIsMinusOne() {
        BENCH.sentence("Terms", "`NONE = -1`: There is none.");
        BENCH.due("NONE", TallySlate.NONE, -1);
    }

    private static void newObject() {
        BENCH.sentence("Promise 1", "An empty tape, no text, all SHELVES BARE.");
        TallySlate x = new TallySlate();
        BENCH.due("load(1)", x.load(1), -2);
        BENCH.due("feed", x.feed(0, 0, 0, 0, 0), 20);
        BENCH.due("function(0, 0)", x.function(0, 0), NONE);
        BENCH.due("run(0, -1, 1)", x.run(0, NONE, 1), NONE);
        for (int shelf = 0; shelf < 8; shelf++) {
            BENCH.due("kind(" + shelf + ")", x.kind(shelf), NONE);
            BENCH.due("clear(" + shelf + ")", x.clear(shelf), false);
        }
        BENCH.due("back()", x.back(), false);
    }

    private static void everyByteHasItsPlace() {
        BENCH.sentence("Promise 2", "Twenty bytes come behind those on the tape, the highest of a first: how many there are");
        int[] odd = {'$', 0, 127, 128, 255};
        for (int c : odd) {
            for (int at = 0; at < 40; at++) {
                TallySlate x = new TallySlate();
                String text = " ".repeat(at) + (char) c + " ".repeat(39 - at);
                BENCH.due("feed of two", Bench.feed(x, text), 40);
                BENCH.due("load with byte " + c + " at " + at, x.load(40), NONE);
                BENCH.due("where that is", x.fault(1), at);
            }
        }
    }

    private static void tapeIsFull() {
        BENCH.sentence("Promise 2", "NONE if there would be more than 1,620.");
        TallySlate x = new TallySlate();
        feedBlanks(x, 79);
        BENCH.due("feed 80", x.feed(BLANKS, BLANKS, BLANKS, BLANKS, BLANKS), 1600);
        BENCH.due("feed 81", x.feed(BLANKS, BLANKS, BLANKS, BLANKS, BLANKS), 1620);
        BENCH.due("feed 82", x.feed(0, 0, 0, 0, 0), NONE);
        BENCH.due("feed 83", x.feed(0, 0, 0, 0, 0), NONE);
        BENCH.due("load(1621)", x.load(1621), -2);
        BENCH.due("load(1600)", x.load(1600), 0);
        BENCH.due("feed behind load", x.feed(0, 0, 0, 0, 0), 20);
    }

    private static void tapeIsEmptiedByLoad() {
        BENCH.sentence("Promise 3", "The first n bytes of the tape, which is empty then, are a text");
        int[] lengths = {0, 1, 9, 19, 20};
        for (int n : lengths) {
            TallySlate x = new TallySlate();
            Bench.feed(x, "fn k(){} fn l() { } ");
            BENCH.due("load(" + n + ")", x.load(n), n == 0 ? 0 : n == 9 ? 1 : n > 18 ? 2 : NONE);
            BENCH.due("load(1) behind load(" + n + ")", x.load(1), -2);
            BENCH.due("feed behind load(" + n + ")", x.feed(0, 0, 0, 0, 0), 20);
        }
    }

    private static void bytesBehindAreNotRead() {
        BENCH.sentence("Promise 3", "The first n bytes of the tape");
        String text = "fn kkkk(xx,yy){zz=1234==567;if(!xx<=yy){return[10>=9,8!=7];}else{say zz;}}# end\nfn mm(){}#";
        for (int n = 0; n <= text.length(); n++) {
            TallySlate whole = new TallySlate();
            Bench.feed(whole, text);
            TallySlate first = new TallySlate();
            Bench.feed(first, text.substring(0, n));
            BENCH.due("load(" + n + ")", whole.load(n), first.load(n));
            BENCH.due("fault(0) of load(" + n + ")", whole.fault(0), first.fault(0));
            BENCH.due("fault(1) of load(" + n + ")", whole.fault(1), first.fault(1));
        }
        TallySlate x = new TallySlate();
        Bench.feed(x, "fn k() { x ==       ");
        BENCH.due("load that ends in a sign", x.load(12), NONE);
        BENCH.due("fault(1), behind the first =", x.fault(1), 12);
        String[] ends = {"fn k() { x = 2147483647", "fn k() { x = 0000000000", "fn abcdefgh"};
        for (String end : ends) {
            Bench.feed(x, end + end.charAt(end.length() - 1));
            BENCH.due("load of " + end, x.load(end.length()), NONE);
            BENCH.due("its fault(0), not that of a longer TOKEN", x.fault(0), 2);
            BENCH.due("its fault(1)", x.fault(1), end.length());
        }
        // What an earlier text had behind is none of the next one's.
        Bench.feed(x, "fn k() {} fn l() {} ");
        x.load(0);
        BENCH.due("load of the first nine", Bench.load(x, "fn m() {}"), 1);
    }

    private static void loadOfNothingAndOfTwelve() {
        BENCH.sentence("Promise 3", "how many FUNCTIONS");
        TallySlate x = new TallySlate();
        BENCH.due("load(0)", x.load(0), 0);
        BENCH.due("load of blanks", Bench.load(x, "  \n # fn k() {}"), 0);
        StringBuilder twelve = new StringBuilder();
        for (int i = 1; i <= 12; i++) {
            twelve.append("fn k").append((char) ('a' + i)).append("(){}");
            BENCH.due("load of " + twelve, Bench.load(x, twelve.toString()), i);
        }
    }

    private static void textBeforeStays() {
        BENCH.sentence("Promise 3", "NONE with a FAULT (the text before stays)");
        String[] faults = {"$", "fn", "fn k() { a = ((((((((((1)))))))))); }", "fn a() {}", "fn k() { row(); }", "fn k() { m(); }",
            " ".repeat(1601)};
        for (String fault : faults) {
            TallySlate x = Bench.loaded("fn k() { return 5; } fn l(x, y) { }");
            BENCH.due("load of " + fault, Bench.load(x, fault), NONE);
            BENCH.due("function(1, 0)", x.function(1, 0), 2);
            BENCH.due("function(2, 0)", x.function(2, 0), NONE);
            BENCH.due("run(0, 0, 9)", x.run(0, 0, 9), 0);
            BENCH.due("cell(0, 0, 0)", x.cell(0, 0, 0), 5);
            BENCH.due("the tape is empty", x.load(1), -2);
            BENCH.due("load of a sound one", Bench.load(x, "fn m() { return 6; }"), 1);
            BENCH.due("fault(0)", x.fault(0), 0);
            x.run(0, 0, 9);
            BENCH.due("cell(0, 0, 0)", x.cell(0, 0, 0), 6);
        }
        TallySlate x = new TallySlate();
        BENCH.due("load of a fault, first", Bench.load(x, "fn k() {} $"), NONE);
        BENCH.due("there still is no text", x.function(0, 0), NONE);
    }

    private static void loadDoesNothing() {
        BENCH.sentence("Promise 3", "-2, doing nothing, if n is below 0 or more than there are");
        TallySlate x = busy();
        String before = Bench.state(x);
        int[] wrong = {NONE, -2, LEAST, 21, 1600, 1601, GREATEST};
        for (int n : wrong) {
            BENCH.due("load(" + n + ")", x.load(n), -2);
            BENCH.due("state", Bench.state(x), before);
        }
        BENCH.due("the tape stayed", x.load(20), 1);
        BENCH.due("load(1) of an empty tape", x.load(1), -2);
        BENCH.due("load(0) of an empty tape", x.load(0), 0);
    }

    private static void moreThan1600() {
        BENCH.sentence("Promise 3", "(More than 1,600: FAULT 1 at 1600.)");
        String most = "fn k() { }" + " ".repeat(1590);
        TallySlate x = new TallySlate();
        BENCH.due("1600 bytes", Bench.load(x, most), 1);
        BENCH.due("fault(0)", x.fault(0), 0);
        int[] lengths = {1601, 1610, 1620};
        for (int n : lengths) {
            TallySlate y = new TallySlate();
            feedBlanks(y, 81);
            BENCH.due("load(" + n + ")", y.load(n), NONE);
            BENCH.due("fault(0)", y.fault(0), 1);
            BENCH.due("fault(1)", y.fault(1), 1600);
        }
        BENCH.due("the end of 1600 bytes", Bench.load(x, most.replace('}', ' ')), NONE);
        BENCH.due("fault(0)", x.fault(0), 2);
        BENCH.due("fault(1)", x.fault(1), 1600);
    }

    private static void faultOfLatestLoad() {
        BENCH.sentence("Promise 4", "Of the latest load() that wasn't -2");
        TallySlate x = new TallySlate();
        Bench.load(x, "fn k() {} $");
        x.load(1);
        BENCH.due("fault(0) behind -2", x.fault(0), 1);
        BENCH.due("fault(1) behind -2", x.fault(1), 10);
        Bench.load(x, "fn k() {} fn k() {}");
        BENCH.due("fault(0)", x.fault(0), 4);
        BENCH.due("fault(1)", x.fault(1), 13);
        x.load(0);
        x.load(1);
        BENCH.due("fault(0) behind a sound text", x.fault(0), 0);
        BENCH.due("fault(1) behind a sound text", x.fault(1), NONE);
    }

    private static void faultWithout() {
        BENCH.sentence("Promise 4", "0 its FAULT's kind (0 without), 1 its place (NONE without)");
        TallySlate x = new TallySlate();
        x.load(0);
        BENCH.due("fault(0)", x.fault(0), 0);
        BENCH.due("fault(1)", x.fault(1), NONE);
        Bench.load(x, "$");
        BENCH.due("fault(0)", x.fault(0), 1);
        BENCH.due("fault(1)", x.fault(1), 0);
    }

    private static void faultOfOthers() {
        BENCH.sentence("Promise 4", "NONE for others, and ahead of any.");
        int[] others = {LEAST, -2, NONE, 2, 3, GREATEST};
        TallySlate x = new TallySlate();
        x.load(1);
        BENCH.due("fault(0) ahead of any", x.fault(0), NONE);
        BENCH.due("fault(1) ahead of any", x.fault(1), NONE);
        Bench.load(x, "fn k() {} $");
        for (int what : others) {
            BENCH.due("fault(" + what + ")", x.fault(what), NONE);
            BENCH.due("fault(" + what + ") ahead of any", new TallySlate().fault(what), NONE);
        }
    }

    private static void functionOfEach() {
        BENCH.sentence("Promise 5", "Of FUNCTION f: 0 its PARAMETERS, 1 its VARIABLES, 2 where its NAME begins");
        String text = "fn k() {} fn l(i) {} fn m(i, j, k, l) {} fn n(i) { j = a; j = i; for k in l { } m[n] = o; try { } on p { } }";
        TallySlate x = Bench.loaded(text);
        int[][] due = {{0, 0, text.indexOf("k()")}, {1, 1, text.indexOf("l(i)")}, {4, 4, text.indexOf("m(i")}, {1, 8, text.indexOf("n(i)")}};
        for (int f = 0; f < 4; f++) {
            for (int what = 0; what < 3; what++) {
                BENCH.due("function(" + f + ", " + what + ")", x.function(f, what), due[f][what]);
            }
        }
    }

    private static void functionOfTheOnlyOne() {
        BENCH.sentence("Promise 5", "0 its PARAMETERS, 1 its VARIABLES, 2 where its NAME begins");
        TallySlate x = Bench.loaded("\n fn n(i, j) { k = 1; }");
        BENCH.due("function(0, 0)", x.function(0, 0), 2);
        BENCH.due("function(0, 1)", x.function(0, 1), 3);
        BENCH.due("function(0, 2)", x.function(0, 2), 5);
    }

    private static void functionOfOthers() {
        BENCH.sentence("Promise 5", "NONE for others.");
        StringBuilder text = new StringBuilder();
        for (int i = 0; i < 12; i++) {
            text.append("fn k").append((char) ('a' + i)).append(i == 11 ? "(i,j,k,l){m=1;}" : "(){}");
        }
        TallySlate x = Bench.loaded(text.toString());
        int[] none = {LEAST, -2, NONE, 12, 13, GREATEST};
        for (int f : none) {
            for (int what = 0; what < 3; what++) {
                BENCH.due("function(" + f + ", " + what + ")", x.function(f, what), NONE);
            }
        }
        int[] others = {LEAST, NONE, 3, GREATEST};
        for (int what : others) {
            BENCH.due("function(0, " + what + ")", x.function(0, what), NONE);
            BENCH.due("function(11, " + what + ")", x.function(11, what), NONE);
        }
        BENCH.due("function(0, 0)", x.function(0, 0), 0);
        BENCH.due("function(0, 1)", x.function(0, 1), 0);
        BENCH.due("function(0, 2)", x.function(0, 2), 3);
        BENCH.due("function(11, 0)", x.function(11, 0), 4);
        BENCH.due("function(11, 1)", x.function(11, 1), 5);
        BENCH.due("function(11, 2)", x.function(11, 2), text.indexOf("kl"));
        Bench.load(x, "fn k() {}");
        BENCH.due("function(1, 2) of a shorter text", x.function(1, 2), NONE);
        x.load(0);
        BENCH.due("function(0, 0) of an empty text", x.function(0, 0), NONE);
    }
}
