/** Promise 5: function. */
public final class FunctionTest {
    public static void main(String[] args) {
        Bench bench = new Bench("FunctionTest");
        TallySlate x = new TallySlate();
        bench.due("without a text", x.function(0, 0), -1);
        String text = "fn kk() { } # one\nfn ll(x, y) { z = x + a; for q in y { say q; } }\n"
                + "fn main(m, n, o, p) { try { m = main; } on r { s[t][u] = v; b[c] = each(w, d) + each(w, h); } } fn w(x) {}";
        bench.due("load", Bench.load(x, text), 4);
        int[][] due = {{0, 0, 3}, {2, 4, text.indexOf("ll")}, {4, 10, text.indexOf("main")}, {1, 1, text.lastIndexOf("w(x)")}};
        for (int f = 0; f < 4; f++) {
            for (int what = 0; what < 3; what++) {
                bench.due("function(" + f + ", " + what + ")", x.function(f, what), due[f][what]);
            }
            bench.due("function(" + f + ", 3)", x.function(f, 3), -1);
            bench.due("function(" + f + ", -1)", x.function(f, -1), -1);
        }
        bench.due("function(4, 0)", x.function(4, 0), -1);
        bench.due("function(-1, 0)", x.function(-1, 0), -1);
        bench.due("function(least, 0)", x.function(Integer.MIN_VALUE, 0), -1);
        bench.due("function(greatest, 2)", x.function(Integer.MAX_VALUE, 2), -1);
        x.load(0);
        bench.due("behind an empty text", x.function(0, 0), -1);
        Bench.load(x, "fn k() { i = j; i = k; }");
        bench.due("a variable named as a function", x.function(0, 1), 3);
        bench.due("its parameters", x.function(0, 0), 0);
        bench.end();
    }
}
