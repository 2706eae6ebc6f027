/** Promise 1: A new object. */
public final class NewObjectTest {
    public static void main(String[] args) {
        Bench bench = new Bench("NewObjectTest");
        TallySlate x = new TallySlate();
        bench.due("NONE", TallySlate.NONE, -1);
        bench.due("load(1)", x.load(1), -2);
        bench.due("fault(0)", x.fault(0), -1);
        bench.due("fault(1)", x.fault(1), -1);
        bench.due("function(0, 0)", x.function(0, 0), -1);
        bench.due("run(0, -1, 1)", x.run(0, -1, 1), -1);
        for (int what = -1; what < 8; what++) {
            bench.due("trouble(" + what + ")", x.trouble(what), -1);
        }
        bench.due("out(0)", x.out(0), -1);
        bench.due("outs()", x.outs(), 0);
        for (int shelf = -2; shelf < 10; shelf++) {
            bench.due("kind(" + shelf + ")", x.kind(shelf), -1);
            bench.due("size(" + shelf + ", -1)", x.size(shelf, -1), -1);
            bench.due("cell(" + shelf + ", 0, 0)", x.cell(shelf, 0, 0), 0);
            bench.due("show(" + shelf + ")", x.show(shelf), -1);
            bench.due("clear(" + shelf + ")", x.clear(shelf), false);
        }
        bench.due("same(0, 7)", x.same(0, 7), true);
        bench.due("back()", x.back(), false);
        long sum = 0;
        for (int shelf = 0; shelf < 8; shelf++) {
            sum = sum * 1000003 ^ -1;
        }
        bench.due("sum()", x.sum(), sum);
        bench.due("load(0)", x.load(0), 0);
        bench.due("fault(0)", x.fault(0), 0);
        bench.end();
    }
}
