/** Promise 20: sum. */
public final class SumTest {
    private static final Bench BENCH = new Bench("SumTest");

    public static void main(String[] args) {
        BENCH.due("sum() of a new one", new TallySlate().sum(), of(-1, -1, -1, -1, -1, -1, -1, -1));
        TallySlate x = Bench.loaded("fn k() { a = -7; b = [4, -5]; c = [[1, 2], [], [-3]]; d = box(8, [9], [[10], []], box(), box(-11)); e = []; f = rows([]);"
                + " g = box(); }");
        x.run(0, -1, 99);
        BENCH.due("sum()", x.sum(), of(
                0, -7,
                1, 2, 4, -5,
                2, 3, 2, 1, 2, 0, 1, -3,
                3, 5, 0, 8, 1, 1, 9, 2, 2, 1, 10, 0, 3, 0, 3, 1, 0, -11,
                1, 0,
                2, 0,
                3, 0,
                -1));
        x.set(7, Integer.MIN_VALUE);
        x.clear(0);
        x.clear(3);
        BENCH.due("sum()", x.sum(), of(-1, 1, 2, 4, -5, 2, 3, 2, 1, 2, 0, 1, -3, -1, 1, 0, 2, 0, 3, 0, 0, Integer.MIN_VALUE));
        BENCH.due("sum() again", x.sum(), x.sum());
        BENCH.end();
    }

    private static long of(int... numbers) {
        long sum = 0;
        for (int n : numbers) {
            sum = sum * 1000003L ^ (long) n;
        }
        return sum;
    }
}
