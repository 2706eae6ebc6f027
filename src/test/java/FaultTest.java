/** Promises 3 and 4: the FAULTS of texts, and fault. */
public final class FaultTest {
    private static final Bench BENCH = new Bench("FaultTest");

    public static void main(String[] args) {
        faultAnswers();
        soundTexts();
        noToken();
        cannotCome();
        tooMany();
        toldAgain();
        otherCount();
        noSuchCall();
        theFirstOne();
        BENCH.end();
    }

    private static void faultAnswers() {
        TallySlate x = new TallySlate();
        BENCH.due("fault(0) ahead of any", x.fault(0), -1);
        BENCH.due("fault(1) ahead of any", x.fault(1), -1);
        Bench.load(x, "fn k() {} $");
        for (int what = -2; what < 5; what++) {
            BENCH.due("fault(" + what + ")", x.fault(what), what == 0 ? 1 : what == 1 ? 10 : -1);
        }
        x.load(9);
        BENCH.due("fault(0) behind a -2", x.fault(0), 1);
        Bench.load(x, "fn k() {}");
        BENCH.due("fault(0)", x.fault(0), 0);
        BENCH.due("fault(1)", x.fault(1), -1);
    }

    private static void body(String statements, int kind) {
        BENCH.fault("fn k() { " + statements + " }", kind);
    }

    private static void soundTexts() {
        BENCH.fault("", 0);
        BENCH.fault("  \n # nothing", 0);
        BENCH.fault("# a remark with any bytes \u0001\u0080\u00ff\t#\nfn k() {}#", 0);
        BENCH.fault("fn k(){}fn l(x){}fn m(x,y,z,zz){}", 0);
        BENCH.fault("fn abcdefgh() { abcdefgi = 2147483647; x = 0000000001; }", 0);
        body("x = 1;", 0);
        body("a[1] = 1; a[1][2] = 1;", 0);
        body("if (1) {} if (1) {} else {} while (0) {} for x in 3 {} for a in b {}", 0);
        body("say 1; return 1; raise 1; try {} on x {} k(); row(1); each(l, x); fold(m, 1, 2); } "
                + "fn l(x) {} fn m(x, y) {", 0);
        body("x = 1 & 2 | 3 & 4; x = 1 + 2 < 3 * 4 - 5 / 6 % 7; x = 1 == 2 & 3 != 4;", 0);
        body("x = -1 + !2 * -(3); x = [1, 2][0]; x = [[1], []][0][1]; x = row(3)[0]; x = (x)[1]; x = [];", 0);
        body("x = -y[1]; x=1<=2; x=1>=2; x=1>2;", 0);
        body("x = box(); x = box(1, 2, 3, 4, 5, 6);", 0);
        body("k = 1; k = k; k = k();", 0);
        BENCH.fault("fn k(k, l) { l = k(k, l); } fn l() {}", 0);
        BENCH.fault("fn k() {} fn l(k) {}", 0);
    }

    private static void noToken() {
        BENCH.fault("^$", 1);
        BENCH.fault("^A", 1);
        BENCH.fault("fn k() {}^\t", 1);
        BENCH.fault("fn k() {}^\r", 1);
        BENCH.fault("fn k() {}^\u0000", 1);
        BENCH.fault("fn k() {}^\u007f", 1);
        BENCH.fault("fn k() {}^\u00e9", 1);
        BENCH.fault("fn ^abcdefghi() {}", 1);
        BENCH.fault("fn ^returning() {}", 1);
        body("x = ^2147483648;", 1);
        body("x = ^9999999999;", 1);
        body("x = ^00000000001;", 1);
        body("x = ^99999999999999999999999999;", 1);
        body("x = 1 + ^_;", 1);
        body("x = 1 ^. 2;", 1);
        body("x = 1; ^\"", 1);
    }

    private static void cannotCome() {
        for (String text : new String[] {
            "^k", "^fnk() {}", "^1", "^}", "fn^", "fn ^1() {}", "fn ^fn() {}", "fn ^row() {}", "fn ^each() {}",
            "fn k^", "fn k^{}", "fn k(^", "fn k(^,) {}", "fn k(x ^y) {}", "fn k(x,^) {}", "fn k(^sum) {}",
            "fn k(^1) {}", "fn k()^", "fn k() ^x", "fn k() {^", "fn k() {} ^x", "fn k() {}^}", "fn k() {}^;",
            "fn k() {  ^", "fn k() { # }^", "fn k() { x = 1 ==^", "fn k() { x = y ^=", "fn k() { x = y <^", "fn k() { k^", "fn k() { x = k^"}) {
            BENCH.fault(text, 2);
        }
        for (String text : new String[] {
            "^;", "^1;", "^[1];", "^(k());", "x^;", "x ^== 1;", "x = ^;", "x = 1 ^}", "x = 1 ^x = 2;", "x = 1 ^2;",
            "x[^] = 1;", "x[1 ^= 1;", "x[1]^;", "x[1][2]^[3] = 1;", "x[1] ^+ 1;", "x[1^, 2] = 1;",
            "if ^1 {}", "if (^) {}", "if (1 ^{}", "if (1) ^x = 1;", "if (1) {} else ^if (1) {}", "^else {}",
            "while ^x {}", "while (1) {} ^else {}", "for ^1 in 2 {}", "for x ^= 2 {}", "for x in ^{}",
            "for x^[1] in 2 {}", "for ^row in 2 {}", "for x in 2 ^;", "^in 2;", "^on x {}", "say^;",
            "return^;", "raise^;", "try ^x", "try {}^;", "try {} on ^{}", "try {} on ^1 {}", "try {} on x^;", "^fn",
            "k() ^}", "k() ^[0];", "k() ^= 1;", "k() ^+ 1;", "row(1) ^[0];", "row^;", "x = row^;", "x = row ^+ 1;",
            "x = 1 < 2 ^< 3;", "x = 1 == 2 ^!= 3;", "x = -^-1;", "x = !^!1;", "x = !^-1;", "x = 1 + ^+ 1;", "x = 1 & ^& 1;",
            "x = ^* 1;", "x = (^);", "x = (1^;", "x = [1^;", "x = [1,^];", "x = [^,1];", "x = [1 ^2];", "x = k(^,1);",
            "x = k(1,^);", "x = k(1^;", "x = 1^);", "x = 1^];", "x = ^if;", "x = y ^= 1;", "x = 1 ^= 2;",
            "x = y^{;", "x = box(^,);", "x = row(^,1);"}) {
            body(text, 2);
        }
        for (String text : new String[] {
            "x = each^;", "x = each(^);", "x = each(^1, y);", "x = each(^row, y);", "x = each(k^);", "x = each(k^(1), y);",
            "x = each(k, y^, z);", "x = each(k,^);", "x = fold(k, y^);", "x = fold(k, y, z^, 1);", "x = fold(k^);",
            "x = fold(^(k), y, z);", "each(k, y) ^+ 1;"}) {
            body(text, 2);
        }
    }

    private static void tooMany() {
        StringBuilder twelve = new StringBuilder();
        for (int i = 0; i < 12; i++) {
            twelve.append("fn k").append((char) ('a' + i)).append("() {} ");
        }
        BENCH.fault(twelve.toString(), 0);
        BENCH.fault(twelve + "fn ^kz() {}", 3);
        BENCH.fault(twelve + "fn ^ka() {}", 3);
        BENCH.fault(twelve + "fn ^a() {}", 3);
        BENCH.fault(twelve + "fn ^row() {}", 2);
        BENCH.fault(twelve + "^k", 2);
        BENCH.fault("fn k(x, y, z, zz) {}", 0);
        BENCH.fault("fn k(x, y, z, zz, ^zzz) {}", 3);
        BENCH.fault("fn k(x, y, z, zz, ^x) {}", 3);
        BENCH.fault("fn k(x, y, z, zz, ^a) {}", 3);
        BENCH.fault("fn k(x, y, z, zz, ^1) {}", 2);
        String fourteen = "i = 1; j = 1; k = 1; l = 1; m = 1; n = 1; o = 1; p = 1; q = 1; r = 1; s = 1; t = 1; u = 1; v = 1; ";
        body(fourteen + "a = b; c = d; e = f; g = h; i = v; k();", 0);
        body(fourteen + "^w = 1; w = 2;", 3);
        body(fourteen + "i = 1 + ^w;", 3);
        body(fourteen + "i[^w] = 1;", 3);
        body(fourteen + "for ^w in 3 {}", 3);
        body(fourteen + "try {} on ^w {}", 3);
        body(fourteen + "^w + 1;", 3);
        body(fourteen + "each(w, i); } fn w(x) {", 0);
        BENCH.fault("fn k(w) { " + fourteen.replace("u = 1; v", "u = 1; ^v") + "}", 3);
        BENCH.fault("fn k() { " + fourteen + "} fn kk() { w = 1; }", 0);
        body("x = (((((((((1)))))))));", 0);
        body("x = (((((((((^(1))))))))));", 3);
        body("x = (((((((((^[1])))))))));", 3);
        body("x = (((((((((row^(1))))))))));", 3);
        body("x = [[[[[[[[[^[1]]]]]]]]]];", 3);
        body("x = (((((((((y^[1])))))))));", 3);
        body("x = [[[[[[[[[^{", 2);
        body("if (1) { if (1) { if (1) { if (1) { if (1) { if (1) { if (1) { if (1) { if (1) {}}}}}}}}}", 0);
        body("if (1) { if (1) { if (1) { if (1) { if (1) { if (1) { if (1) { if (1) { if (1) { if ^(1) {}}}}}}}}}}", 3);
        body("if (1) { if (1) { if (1) { if (1) { if (1) { if (1) { if (1) { if (1) { if (1) { try ^{} on x {}}}}}}}}}}", 3);
        body("x = (1) + (1) + (1) + (1) + (1) + (1) + (1) + (1) + (1) + (1) + (1) + [1][1] + [1][1];", 0);
    }

    private static void toldAgain() {
        BENCH.fault("fn k() {} fn ^k() {}", 4);
        BENCH.fault("fn k() {} fn l() {} fn ^k(x) {}", 4);
        for (char shelf = 'a'; shelf <= 'h'; shelf++) {
            BENCH.fault("fn ^" + shelf + "() {}", 4);
            BENCH.fault("fn k(x, ^" + shelf + ") {}", 4);
        }
        BENCH.fault("fn i(j) {}", 0);
        BENCH.fault("fn k(x, ^x) {}", 4);
        BENCH.fault("fn k(x, y, z, ^y) {}", 4);
        BENCH.fault("fn k(x) {} fn l(x) {}", 0);
    }

    private static void otherCount() {
        for (String one : new String[] {"row", "iota", "pack", "rows", "size", "widths", "kind", "sum", "max", "min",
            "scan", "sort", "grade", "back", "flat", "turn", "group"}) {
            body("x = " + one + "(1);", 0);
            body("x = " + one + "(^);", 5);
            body("x = " + one + "(1^, 2);", 5);
            body(one + "(^);", 5);
        }
        for (String two : new String[] {"grid", "join", "take", "drop", "cut", "pick", "find", "pad", "outer", "same"}) {
            body("x = " + two + "(1, 2);", 0);
            body("x = " + two + "(^);", 5);
            body("x = " + two + "(1^);", 5);
            body("x = " + two + "(1, 2^, 3);", 5);
            body("x = " + two + "(1, 2^,);", 5);
        }
        body("x = box(1, 2, 3, 4, 5, 6^, 7);", 5);
        body("x = row(row(^));", 5);
        body("x = row(1^, $);", 5);
        body("x = row(^$);", 1);
    }

    private static void noSuchCall() {
        body("^l();", 6);
        body("x = ^l(1, 2);", 6);
        body("x = ^a();", 6);
        body("x = ^k(1);", 6);
        body("^k(k());", 6);
        body("l(^l()); } fn l(x) {", 6);
        body("^l(l()); } fn l(x, y) {", 6);
        body("x = each(^k, x);", 6);
        body("x = each(^y, x);", 6);
        body("x = each(^a, x);", 6);
        body("x = fold(^l, x, y); } fn l(x) {", 6);
        body("x = each(^l, x); } fn l(x, y) {", 6);
        body("x = each(l, ^zz()); } fn l(x) {", 6);
        body("x = each(^zz, zz()); } fn l(x) {", 6);
        body("l(1); each(l, x); fold(m, 1, x); } fn l(x) {} fn m(x, y) {", 0);
        BENCH.fault("fn k() { l(); } fn l() { ^m(); }", 6);
        BENCH.fault("fn k() { ^m(); l(1); } fn l() { }", 6);
        BENCH.fault("fn k() { m(); } ^1", 2);
        BENCH.fault("fn k() { m(); } fn ^k() {}", 4);
        BENCH.fault("fn k() { m(); x = row(^); }", 5);
    }

    private static void theFirstOne() {
        body("x = ^; $", 2);
        body("x = ^$ ;", 1);
        body("x = 1 ^abcdefghi", 1);
        BENCH.fault("fn ^a(a) { $ }", 4);
        BENCH.fault("fn k(x, ^$) {}", 1);
        BENCH.fault("fn k(x, ^x", 4);
    }
}
