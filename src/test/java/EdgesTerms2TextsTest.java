/** The edges that part 2 of the document's terms names, sentence by sentence: TEXTS and their FAULTS. */
public final class EdgesTerms2TextsTest {
    private static final Bench BENCH = new Bench("EdgesTerms2TextsTest");
    private static final String[] STATEMENT_WORDS = {"fn", "if", "else", "while", "for", "in", "say", "return", "raise", "try", "on"};
    private static final String[] ONE_E = {"row", "iota", "pack", "rows", "size", "widths", "kind", "sum", "max", "min", "scan", "sort", "grade",
        "back", "flat", "turn", "group"};
    private static final String[] TWO_E = {"grid", "join", "take", "drop", "cut", "pick", "find", "pad", "outer", "same"};
    private static final String FOURTEEN = "i = 1; j = 1; k = 1; l = 1; m = 1; n = 1; o = 1; p = 1; q = 1; r = 1; s = 1; t = 1; u = 1; v = 1; ";

    public static void main(String[] args) {
        bytesOfTexts();
        tokensAsLongAsTheyGo();
        words();
        numbers();
        signs();
        blanksAndRemarks();
        textOfNone();
        functionsAndParameters();
        emptyBlocks();
        statements();
        otherStatements();
        chains();
        wholeExpressions();
        oneComparison();
        oneSignAhead();
        literals();
        calls();
        callOrName();
        namesAreNoOtherWords();
        shelvesAreNoVariables();
        fourteenVariables();
        functionsNamesStandForThemselves();
        theEndIsAToken();
        theFirstFault();
        theLeastKind();
        fault1();
        fault2();
        fault3();
        elevenOpen();
        fault4();
        fault5();
        fault5NotOfEachAndFold();
        fault6();
        fault6IsLast();
        BENCH.end();
    }

    private static void body(String statements, int kind) {
        BENCH.fault("fn k() { " + statements + " }", kind);
    }

    private static void bytesOfTexts() {
        BENCH.sentence("Terms 2", "TEXTS have at most 1,600 bytes: 32 to 126, and 10.");
        for (int c = 0; c < 256; c++) {
            boolean blank = c == 32 || c == 10 || c == '#';
            boolean token = c >= 'a' && c <= 'z' || c >= '0' && c <= '9' || "{}()[];,=<>+-*/%&|!".indexOf(c) >= 0;
            TallySlate x = new TallySlate();
            BENCH.due("load with byte " + c, Bench.load(x, "fn k() {} " + (char) c), blank ? 1 : -1);
            BENCH.due("fault(0) with byte " + c, x.fault(0), blank ? 0 : token ? 2 : 1);
            BENCH.due("fault(1) with byte " + c, x.fault(1), blank ? -1 : 10);
        }
        TallySlate x = new TallySlate();
        BENCH.due("1600 bytes", Bench.load(x, " ".repeat(1591) + "fn k() {}"), 1);
        BENCH.due("function(0, 2)", x.function(0, 2), 1594);
        BENCH.due("1601 bytes", Bench.load(x, " ".repeat(1592) + "fn k() {}"), -1);
    }

    private static void tokensAsLongAsTheyGo() {
        BENCH.sentence("Terms 2", "TOKENS, as long as they go");
        body("x=1==1;x=1!=1;x=1<=1;x=1>=1;x=1<1;x=1>1;", 0);
        body("x = 1 ^= = 1;", 2);
        body("x = 1 < ^= 1;", 2);
        body("x = 1 > ^= 1;", 2);
        body("x = 1 ^! = 1;", 2);
        body("x ^== 1;", 2);
        body("x = 1 ==^= 1;", 2);
        body("x = 1 <=^= 1;", 2);
        body("x = 1 <^> 1;", 2);
        body("x = 1 <^< 1;", 2);
        body("x = y ^=! 1;", 2);
        body("x=!1;x=-1;x=1-1;x=1+-1;x=1- -1;x=1--1;", 0);
        body("x=1&1;x = 1 &^& 1;", 2);
        body("x = 1^x;", 2);
        body("x^1 = 1;", 2);
        body("ifx = 1; inn = 2; forx = 3;", 0);
        BENCH.fault("^fnk() {}", 2);
        BENCH.fault("fn k(x,y){forx=1;for x in y{}}", 0);
        body("for x ^inn {}", 2);
    }

    private static void words() {
        BENCH.sentence("Terms 2", "WORDS (a to z, at most 8)");
        BENCH.fault("fn abcdefgh(zyxwvuts) { return zyxwvuts; }", 0);
        BENCH.fault("fn ^abcdefghi() {}", 1);
        BENCH.fault("fn k(^zyxwvutsr) {}", 1);
        body("az = 1; za = 2; z = 3;", 0);
        body("^abcdefghijklmnopqrstuvwxyz = 1;", 1);
        body("x^A = 1;", 1);
        body("x^_ = 1;", 1);
        body("x^` = 1;", 1);
        body("x^Z = 1;", 1);
        BENCH.gives("fn k() { abcdefgh = 1; abcdefgi = 2; bbcdefgh = 3; return [abcdefgh, abcdefgi, bbcdefgh]; }", "[1 2 3]");
        BENCH.gives("fn k() { i = 1; ii = 2; iii = 3; iiiiiii = 7; iiiiiiii = 8; return [i, ii, iii, iiiiiii, iiiiiiii]; }", "[1 2 3 7 8]");
    }

    private static void numbers() {
        BENCH.sentence("Terms 2", "NUMBERS (digits, at most 10 of them, at most 2147483647)");
        BENCH.worth("2147483647", "2147483647");
        BENCH.worth("0000000000", "0");
        BENCH.worth("0000000019", "19");
        body("x = ^2147483648;", 1);
        body("x = -^2147483648;", 1);
        body("x = ^9999999999;", 1);
        body("x = ^00000000000;", 1);
        body("x = ^00000000001;", 1);
        body("x = ^4294967297;", 1);
        body("x = ^18446744073709551617;", 1);
        body("x = 12^:3;", 1);
        body("x = 1^.5;", 1);
    }

    private static void signs() {
        BENCH.sentence("Terms 2", "SIGNS { } ( ) [ ] ; , = == != < <= > >= + - * / % & | !");
        String[] two = {"==", "!=", "<", "<=", ">", ">=", "+", "-", "*", "/", "%", "&", "|"};
        for (String sign : two) {
            body("x = 1 " + sign + " 2;", 0);
            body("x = 1" + sign + "2;", 0);
        }
        body("x=[(1),!2];", 0);
        String[] none = {"~", "@", "$", "\"", "'", ".", ":", "?", "\\"};
        for (String sign : none) {
            body("x = 1 ^" + sign + " 2;", 1);
        }
    }

    private static void blanksAndRemarks() {
        BENCH.sentence("Terms 2", "between them blanks (32, 10), and what stands from a # to the line's end (any bytes).");
        BENCH.fault("fn\nk(\n)\n{ }\n", 0);
        BENCH.fault("fn#x\nk#\n()#{}\n{}", 0);
        for (int c = 0; c < 256; c++) {
            TallySlate x = new TallySlate();
            // The line's end, and nothing else, ends a remark, so that the fn behind it is one without a NAME.
            BENCH.due("a remark with byte " + c, Bench.load(x, "fn k() {} #" + (char) c + " fn"), c == 10 ? -1 : 1);
        }
        BENCH.fault("fn k() {} #", 0);
        BENCH.fault("#\n#\n#", 0);
        BENCH.fault("# fn k() {}\n^1", 2);
        BENCH.fault("fn k() {} # \r fn", 0);
        BENCH.fault("fn k() {} # \n^\r fn", 1);
        BENCH.fault("fn k() { # }^", 2);
        BENCH.fault("fn k()^\t{}", 1);
        BENCH.gives("fn k() { x = 1 # + 1;\n + 2; return x; }", "3");
    }

    private static void textOfNone() {
        BENCH.sentence("Terms 2", "TEXT: none or some of: fn NAME ( [NAME {, NAME}] ) BLOCK.");
        BENCH.fault("", 0);
        BENCH.fault(" ", 0);
        BENCH.fault("fn k() {}", 0);
        BENCH.fault("fn k(x) {} fn l(x, y) {}", 0);
        BENCH.fault("fn k(x,^) {}", 2);
        BENCH.fault("fn k(^,x) {}", 2);
        BENCH.fault("fn k(x ^y) {}", 2);
        BENCH.fault("fn k ^{}", 2);
        BENCH.fault("fn k() {}^;", 2);
        BENCH.fault("^x = 1;", 2);
    }

    private static void functionsAndParameters() {
        BENCH.sentence("Terms 2", "At most 12 FUNCTIONS, numbered from 0; 4 PARAMETERS each.");
        StringBuilder text = new StringBuilder();
        for (int i = 0; i < 12; i++) {
            text.append("fn k").append((char) ('a' + i)).append("() { return ").append(i).append("; } ");
        }
        TallySlate x = new TallySlate();
        BENCH.due("load of 12", Bench.load(x, text.toString()), 12);
        for (int f = 0; f < 12; f++) {
            x.run(f, 0, 9);
            BENCH.due("what function " + f + " gives", x.cell(0, 0, 0), f);
        }
        BENCH.fault(text + "fn ^km() {}", 3);
        BENCH.fault("fn k(i, j, l, m) {} fn n(i, j, l, m) {}", 0);
        BENCH.fault("fn k(i, j, l, m, ^n) {}", 3);
        BENCH.fault("fn k(i, j, l, m) {} fn n(i, j, l, m, ^o) {}", 3);
    }

    private static void emptyBlocks() {
        BENCH.sentence("Terms 2", "BLOCK: { none or some STATEMENTS }.");
        BENCH.gives("fn k() {}", "0");
        body("if (1) {} if (0) {} else {} while (0) {} for x in 3 {} try {} on x {}", 0);
        BENCH.fault("fn k() { x = 1; } ^}", 2);
        BENCH.fault("fn k() { ^{} }", 2);
        BENCH.fault("fn k() ^x = 1;", 2);
    }

    private static void statements() {
        BENCH.sentence("Terms 2", "N = E ;  N [ E ] = E ;  N [ E ] [ E ] = E ;  if ( E ) BLOCK, perhaps else BLOCK");
        body("x = 1; x[1] = 1; x[1][2] = 1;", 0);
        body("x[1][2]^[3] = 1;", 2);
        body("x[^] = 1;", 2);
        body("x[1]^;", 2);
        body("x = 1 ^}", 2);
        body("if (1) {} x = 1; if (1) {} else {}", 0);
        body("if (1) {} else {} ^else {}", 2);
        body("^else {}", 2);
        body("if (1) {} else ^if (1) {}", 2);
        body("while (1) {} ^else {}", 2);
    }

    private static void otherStatements() {
        BENCH.sentence("Terms 2", "while ( E ) BLOCK;  for N in E BLOCK;  say E ;  return E ;  raise E ;  try BLOCK on N BLOCK;  CALL ;");
        body("while (1) {} for x in 1 {} for a in (1) {} say 1; return 1; raise 1; try {} on x {} try {} on h {} k(); row(1);", 0);
        String[] wrong = {"while ^1 {}", "while (^) {}", "while (1)^;", "for x ^{}", "for x in ^{}", "for ^(x in 1) {}",
            "for x^[1] in 1 {}", "say^;", "say 1^, 2;", "return^;", "raise^;", "try {} ^{}", "try {} on x^;", "try {} on x^[1] {}",
            "try {} on x {} ^on x {}", "k()^[0];", "k() ^= 1;", "k() ^}", "row(1) ^+ 1;"};
        for (String statement : wrong) {
            body(statement, 2);
        }
    }

    private static void chains() {
        BENCH.sentence("Terms 2", "E: C {(& or |) C}.");
        BENCH.worth("1 | 2 & 4", "0");
        BENCH.worth("4 & 2 | 1 | 8", "9");
        BENCH.worth("2 + 3 * 4 == 14 & 1 < 2", "1");
        BENCH.sentence("Terms 2", "A: M {(+ or -) M}. M: U {(* or / or %) U}.");
        BENCH.worth("1 - 2 - 3 + 4", "0");
        BENCH.worth("100 / 7 / 2 % 4 * 5", "15");
        BENCH.worth("1 - 2 * 3 - 4 / -2", "-3");
        BENCH.worth("1" + "+1".repeat(700), "701");
        BENCH.sentence("Terms 2", "P: ATOM {[ E ]}. ATOM: NUMBER, N, CALL, ( E )");
        BENCH.worth("box(box(box(box([[5, 6]]))))[0][0][0][0][0][1]", "6");
        BENCH.worth("([7, 8])[1]", "8");
        BENCH.worth("-[7, 8][1]", "-8");
        BENCH.gives("fn k() { a = [4]; return a[0] + l()[0] + [6][0] + iota(9)[8]; } fn l() { return [5]; }", "23");
        BENCH.fails("7^[0]", 3);
    }

    /** Every E may have all signs, wherever it stands. */
    private static void wholeExpressions() {
        BENCH.sentence("Terms 2", "E: C {(& or |) C}. C: A");
        BENCH.gives("fn k() { return [1 | 2, 4 | 8, 1 < 2]; }", "[3 12 1]");
        BENCH.gives("fn k() { return l(1 | 2, 4 | 8); } fn l(x, y) { return [x | y, x == 3 & y == 12]; }", "[15 1]");
        BENCH.gives("fn k() { x = row(4); x[1 | 2] = 4 | 8; y = [x]; y[0 | 0][0 | 1] = 1 | 16; return y; }", "{[0 17 0 12]}");
        BENCH.gives("fn k() { if (0 | 1) { say 1; } while (0 & 1) { } for x in 1 | 2 { } return x | 4; }", "6");
        BENCH.gives("fn k() { try { raise 1 | 2; } on x { } return (x | 4) * 2; }", "14");
        BENCH.gives("fn k() { return iota(9)[1 | 2] + size(row(1 | 4)) + size(grid(1 | 2, 0 | 1)); }", "11");
        BENCH.gives("fn k() { return each(l, [1, 2] | [4, 8]); } fn l(x) { return x; }", "[5 10]");
        BENCH.gives("fn k() { return fold(l, 1 | 2, [4] | 8); } fn l(x, y) { return x + y; }", "15");
        TallySlate x = Bench.loaded("fn k() { say 1 | 2; }");
        x.run(0, 0, 9);
        BENCH.due("said", Bench.kept(x), "3\n");
    }

    private static void oneComparison() {
        BENCH.sentence("Terms 2", "C: A, perhaps one of == != < <= > >= and another A.");
        String[] signs = {"==", "!=", "<", "<=", ">", ">="};
        for (String one : signs) {
            body("x = 1 + 2 " + one + " 3 + 4;", 0);
            for (String other : signs) {
                body("x = 1 " + one + " 2 ^" + other + " 3;", 2);
            }
        }
        body("x = 1 < 2 & 3 < 4 | 5 < 6; x = (1 < 2) < 3;", 0);
    }

    private static void oneSignAhead() {
        BENCH.sentence("Terms 2", "U: P, perhaps with one - or ! ahead.");
        body("x = -1; x = !1; x = -(-1); x = !(!1); x = -x[1]; x = 1 - -1; x = 1 * !1;", 0);
        body("x = -^-1;", 2);
        body("x = !^!1;", 2);
        body("x = -^!1;", 2);
        body("x = !^-1;", 2);
        body("x = ^+1;", 2);
    }

    private static void literals() {
        BENCH.sentence("Terms 2", "or a LITERAL: [ none or some E with , between ].");
        body("x = []; x = [1]; x = [1, 2]; x = [[], [1]];", 0);
        body("x = [^,];", 2);
        body("x = [1,^];", 2);
        body("x = [1 ^2];", 2);
        body("x = [1,^,2];", 2);
        body("x = [1^;", 2);
        // More E than a ROW has INTS are no FAULT.
        body("x = [" + "0,".repeat(700) + "0];", 0);
    }

    private static void calls() {
        BENCH.sentence("Terms 2", "CALL: a FUNCTION's NAME or a built-in's word, ( none or some E with , between ); or each ( NAME , E ),"
                + " fold ( NAME , E , E ).");
        BENCH.fault("fn k() { k(); x = k(); l(1); l((1)); row(1); box(); each(l, 1); fold(m, 1, 2); } fn l(x) {} fn m(x, y) {}", 0);
        body("k(^,);", 2);
        body("k(1,^);", 2);
        body("k(1 ^2);", 2);
        BENCH.fault("fn k() { x = k(^", 2);
        body("each(^);", 2);
        body("each(k^);", 2);
        body("each(k,^);", 2);
        body("each(^1, 2);", 2);
        body("each(^row, 2);", 2);
        body("each(k^(), 2);", 2);
        body("fold(k^);", 2);
        body("fold(k, 1^);", 2);
        body("fold(k, 1,^);", 2);
        body("k();".repeat(390), 0);
        body("k();".repeat(389) + "^m();", 6);
        body("x = k() ^k();", 2);
        body("k() ^+ 1;", 2);
    }

    private static void callOrName() {
        BENCH.sentence("Terms 2", "Where a STATEMENT or an ATOM begins, a NAME with ( behind it is a CALL's; N is any NAME else.");
        BENCH.gives("fn k() { l = 5; l(); x = l + l(); return [l, x]; } fn l() { return 7; }", "[5 12]");
        BENCH.gives("fn k() { l = 5; # l\nl\n(); return l\n#(\n(); } fn l() { return 7; }", "7");
        body("for x^(1) in 3 {}", 2);
        body("try {} on x^(1) {}", 2);
        body("x = 1 + y ^x;", 2);
        // The NAME of a CALL is no VARIABLE; the NAME of each and fold neither.
        TallySlate x = Bench.loaded("fn k() { l(1); x = l(2); each(l, y); fold(m, y, y); } fn l(x) {} fn m(x, y) {}");
        BENCH.due("VARIABLES", x.function(0, 1), 2);
    }

    private static void namesAreNoOtherWords() {
        BENCH.sentence("Terms 2", "NAMES are WORDS but fn if else while for in say return raise try on and the built-ins' words (4).");
        for (String word : STATEMENT_WORDS) {
            noName(word);
            body("x = ^" + word + ";", 2);
            body("x = ^" + word + "(1);", 2);
            body("x = 1 + ^" + word + "(1, 2);", 2);
        }
        body("^fn(1);", 2);
        body("^else(1);", 2);
        body("^in(1);", 2);
        body("^on(1);", 2);
        for (String word : ONE_E) {
            noName(word);
        }
        for (String word : TWO_E) {
            noName(word);
        }
        noName("box");
        noName("each");
        noName("fold");
        BENCH.fault("fn ons() { ro = 1; eachs = 2; rowss = 3; se = 4; fns = 5; i = 6; }", 0);
    }

    private static void noName(String word) {
        BENCH.fault("fn ^" + word + "() {}", 2);
        BENCH.fault("fn k(^" + word + ") {}", 2);
        body("for ^" + word + " in 3 {}", 2);
        body("try {} on ^" + word + " {}", 2);
        body("each(^" + word + ", 1);", 2);
        body("fold(^" + word + ", 1, 1);", 2);
    }

    private static void shelvesAreNoVariables() {
        BENCH.sentence("Terms 2", "The NAMES a b c d e f g h are SHELVES; others are a FUNCTION's VARIABLES");
        TallySlate x = Bench.loaded("fn k() { a = 1; b = 2; c = 3; d = 4; e = 5; f = 6; g = 7; h = 8; } fn l() { i = 1; aa = 2; ha = 3; z = 4; }");
        BENCH.due("VARIABLES of shelves alone", x.function(0, 1), 0);
        BENCH.due("VARIABLES of others", x.function(1, 1), 4);
        x.run(0, -1, 99);
        for (int shelf = 0; shelf < 8; shelf++) {
            BENCH.due("shelf " + shelf, x.cell(shelf, 0, 0), shelf + 1);
        }
        long before = x.sum();
        x.run(1, -1, 99);
        BENCH.due("sum() behind VARIABLES alone", x.sum(), before);
    }

    private static void fourteenVariables() {
        BENCH.sentence("Terms 2", "its PARAMETERS (no SHELVES), and all N in it; at most 14.");
        body(FOURTEEN + "a = b; c = d; e = f; g = h; i = v; k(); each(w, i); } fn w(x) {", 0);
        TallySlate x = Bench.loaded("fn k() { " + FOURTEEN + "}");
        BENCH.due("VARIABLES", x.function(0, 1), 14);
        body(FOURTEEN + "^w = 1;", 3);
        body(FOURTEEN + "^w[0] = 1;", 3);
        body(FOURTEEN + "say ^w;", 3);
        body(FOURTEEN + "for ^w in 3 {}", 3);
        body(FOURTEEN + "try {} on ^w {}", 3);
        BENCH.fault("fn k(w) { " + FOURTEEN.replace("v = 1; ", "") + "w = 1; }", 0);
        BENCH.fault("fn k(w) { " + FOURTEEN.replace("v = 1; ", "^v = 1; ") + "}", 3);
        BENCH.fault("fn k() { " + FOURTEEN + "} fn l(w) { x = 1; }", 0);
        BENCH.gives("fn k() { " + FOURTEEN + "v = 5; u = 6; return [i, u, v]; }", "[1 6 5]");
    }

    private static void functionsNamesStandForThemselves() {
        BENCH.sentence("Terms 2", "FUNCTIONS' NAMES (no SHELVES) stand for themselves: a VARIABLE may be called as one is.");
        BENCH.fault("fn k(k, l) { l = k; k = l(); } fn l() {}", 0);
        BENCH.gives("fn k() { k = 4; l = 5; return k + l(l, k); } fn l(l, k) { return l * 10 + k; }", "58");
        TallySlate x = Bench.loaded("fn k() { k = 1; }");
        BENCH.due("VARIABLES", x.function(0, 1), 1);
    }

    private static void theEndIsAToken() {
        BENCH.sentence("Terms 2", "kind and place (a TOKEN's first byte; the end is one)");
        BENCH.fault("fn^", 2);
        BENCH.fault("fn k^", 2);
        BENCH.fault("fn k() {   ^", 2);
        BENCH.fault("fn k() { # } \n # x^", 2);
        BENCH.fault("fn k() { x = 1 ^", 2);
        BENCH.fault("fn k() { x = 1 <=^", 2);
        BENCH.fault("fn k() { x ^12345", 2);
        BENCH.fault("fn k() { x ^== 1", 2);
        BENCH.fault("fn k() { x = y ^return", 2);
        BENCH.fault("fn k() {" + " ".repeat(1592) + "^", 2);
    }

    private static void theFirstFault() {
        BENCH.sentence("Terms 2", "the first one, going over it");
        body("x = ^; $", 2);
        body("x = ^$; ;", 1);
        BENCH.fault("fn ^a() { $ }", 4);
        BENCH.fault("fn k(x, ^x) { 1 }", 4);
        body("row(^); $", 5);
        body("m(); row(^);", 5);
        body("x = (((((((((^(((((", 3);
        body("row(1^, 2, $);", 5);
    }

    private static void theLeastKind() {
        BENCH.sentence("Terms 2", "(of one TOKEN the least kind)");
        StringBuilder twelve = new StringBuilder();
        for (int i = 0; i < 12; i++) {
            twelve.append("fn k").append((char) ('a' + i)).append("() {} ");
        }
        BENCH.fault(twelve + "fn ^ka() {}", 3);
        BENCH.fault(twelve + "fn ^a() {}", 3);
        BENCH.fault(twelve + "fn ^row() {}", 2);
        BENCH.fault(twelve + "fn ^abcdefghi() {}", 1);
        BENCH.fault("fn k(i, j, l, m, ^i) {}", 3);
        BENCH.fault("fn k(i, j, l, m, ^a) {}", 3);
        BENCH.fault("fn k(i, j, l, m, ^1) {}", 2);
        body("x = (((((((((1 ^(", 2);
        body("x = (((((((((1 ^{", 2);
        body("row(1 ^;", 2);
        body("grid(1 ^];", 2);
        body(FOURTEEN + "^abcdefghi = 1;", 1);
        body("grid(^,);", 2);
    }

    private static void fault1() {
        BENCH.sentence("Terms 2", "1 no TOKEN (a WORD of 9, a NUMBER that is none such, a byte that begins none)");
        body("^abcdefghi = 1;", 1);
        body("x = ^returning;", 1);
        body("x = ^2147483648;", 1);
        body("x = ^12345678901;", 1);
        body("x = 1 ^~ 2;", 1);
        body("x ^\u007f= 1;", 1);
        body("x ^\u0080= 1;", 1);
        body("x ^\u00ff= 1;", 1);
        body("x ^\u001f= 1;", 1);
    }

    private static void fault2() {
        BENCH.sentence("Terms 2", "2 a TOKEN that can't come");
        String[] wrong = {"^;", "^1 = 1;", "^(k());", "^[1];", "x^;", "x = ^;", "if ^1 {}", "if (^) {}", "while ^{}", "for ^in 3 {}", "for x ^3 {}",
            "for x in ^{}", "say ^;", "return ^;", "raise ^;", "try ^;", "try {}^;", "try {} on ^{}", "^on x {}", "^in;", "^fn k() {}", "^else {}",
            "row^;", "x = row^;", "x = ^say;", "x = 1 ^=", "x = (1^];", "x = [1^);", "x[1^) = 1;"};
        for (String statement : wrong) {
            body(statement, 2);
        }
    }

    private static void fault3() {
        BENCH.sentence("Terms 2", "3 one too many: a FUNCTION (its NAME), a PARAMETER, a VARIABLE (where it stands first)");
        BENCH.fault("fn i(){}fn j(){}fn k(){}fn l(){}fn m(){}fn n(){}fn o(){}fn p(){}fn q(){}fn r(){}fn s(){}fn t(){}fn ^u(){}", 3);
        BENCH.fault("fn k(i, j, l, m, ^n, o) {}", 3);
        body(FOURTEEN + "i = ^w + w; w = 1;", 3);
        body(FOURTEEN + "^w[x] = 1;", 3);
    }

    private static void elevenOpen() {
        BENCH.sentence("Terms 2", "an 11th of ( [ { not closed yet");
        body("x = (((((((((1)))))))));", 0);
        body("x = (((((((((^(1))))))))));", 3);
        body("x = [[[[[[[[[1]]]]]]]]];", 0);
        body("x = [[[[[[[[[^[1]]]]]]]]]];", 3);
        body("x = ((([[[(((1)))]]])));", 0);
        body("x = ((([[[(((^[1])))]]])));", 3);
        body("x = (((((((((y^[1])))))))));", 3);
        body("x = (((((((((k^())))))))));", 3);
        body("x = (((((((((row^(1))))))))));", 3);
        body("x = (((((((((each^(k, 1))))))))));", 3);
        body("x[((((((((1))))))))] = 1;", 0);
        body("x[((((((((^(1)))))))))] = 1;", 3);
        String nine = "if (1) { ".repeat(9);
        body(nine + "x = 1;" + " }".repeat(9), 0);
        body(nine + "x = ^(1);" + " }".repeat(9), 3);
        body(nine + "x^[1] = 1;" + " }".repeat(9), 3);
        body(nine + "try ^{ } on x { }" + " }".repeat(9), 3);
        body(nine + "k^();" + " }".repeat(9), 3);
        // Those that are closed again are as many as there are.
        body("k(); x = " + "(1) + ".repeat(20) + "[1][0]" + " + [1][0]".repeat(20) + ";", 0);
        BENCH.fault("fn l() { x = (((((((((1))))))))); } fn m() { x = (((((((((1))))))))); }", 0);
    }

    private static void fault4() {
        BENCH.sentence("Terms 2", "4 a FUNCTION's or PARAMETER's NAME that is told again, or is a SHELF");
        BENCH.fault("fn k() {} fn l() {} fn ^k() {}", 4);
        BENCH.fault("fn k() {} fn ^k(x) {}", 4);
        BENCH.fault("fn k(x, ^x) {}", 4);
        BENCH.fault("fn k(x, y, z, ^x) {}", 4);
        BENCH.fault("fn k(x) {} fn l(x) {}", 0);
        BENCH.fault("fn k(k) {} fn l(k) {}", 0);
        for (char shelf = 'a'; shelf <= 'h'; shelf++) {
            BENCH.fault("fn ^" + shelf + "() {}", 4);
            BENCH.fault("fn k(^" + shelf + ") {}", 4);
            BENCH.fault("fn " + shelf + shelf + "(" + shelf + shelf + ") {}", 0);
        }
        BENCH.fault("fn i(i) {}", 0);
    }

    private static void fault5() {
        BENCH.sentence("Terms 2", "5 a built-in (but each, fold: 2) with another number of E (at the ) or the , at which that is known)");
        for (String one : ONE_E) {
            body(one + "(1); x = " + one + "(1);", 0);
            body(one + "(^);", 5);
            body("x = " + one + "(^);", 5);
            body("x = " + one + "(1^, 2);", 5);
            body("x = " + one + "(1^,);", 5);
        }
        for (String two : TWO_E) {
            body(two + "(1, 2); x = " + two + "(1, 2);", 0);
            body("x = " + two + "(^);", 5);
            body("x = " + two + "(1^);", 5);
            body("x = " + two + "(1, 2^, 3);", 5);
            body("x = " + two + "(1, 2^,);", 5);
        }
        body("x = box(); x = box(1); x = box(1, 2, 3, 4, 5, 6);", 0);
        body("x = box(1, 2, 3, 4, 5, 6^, 7);", 5);
    }

    private static void fault5NotOfEachAndFold() {
        BENCH.sentence("Terms 2", "(but each, fold: 2)");
        body("each(k^);", 2);
        body("each(k, 1^, 2);", 2);
        body("fold(k, 1^);", 2);
        body("fold(k, 1, 2^, 3);", 2);
        body("each(^);", 2);
        body("fold(^);", 2);
    }

    private static void fault6() {
        BENCH.sentence("Terms 2", "6 the first CALL (each, fold: its NAME) of what is no FUNCTION, or with another number of E than it has PARAMETERS"
                + " (each: 1, fold: 2), at the WORD.");
        body("^m();", 6);
        body("x = ^a();", 6);
        body("x = 1; ^x();", 6);
        body("^k(1);", 6);
        body("^l(); } fn l(x) {", 6);
        body("^l(1, 2); } fn l(x) {", 6);
        body("^l(1, 2, 3); } fn l(w, x, y, z) {", 6);
        body("^l(1, 2, 3, 4, 5); } fn l(w, x, y, z) {", 6);
        body("l(1, 2, 3, 4); } fn l(w, x, y, z) {", 0);
        body("each(^m, 1);", 6);
        body("each(^k, 1);", 6);
        body("each(^l, 1); } fn l(x, y) {", 6);
        body("each(l, 1); } fn l(x) {", 0);
        body("fold(^m, 1, 2);", 6);
        body("fold(^l, 1, 2); } fn l(x) {", 6);
        body("fold(^l, 1, 2); } fn l(x, y, z) {", 6);
        body("fold(l, 1, 2); } fn l(x, y) {", 0);
        body("^m(n());", 6);
        body("l(^n()); n(); } fn l(x) {", 6);
        body("each(^m, n());", 6);
        body("each(l, ^n()); } fn l(x) {", 6);
    }

    private static void fault6IsLast() {
        BENCH.sentence("Terms 2", "If there is none: 6");
        body("m(); ^1", 2);
        body("m(); ^$", 1);
        body("m(); x = (((((((((^(", 3);
        BENCH.fault("fn k() { m(); } fn ^k() {}", 4);
        body("m(); row(^);", 5);
        BENCH.fault("fn k() { ^m(); } fn l() { n(); }", 6);
        BENCH.fault("fn k() { l(); } fn l() { ^n(); }", 6);
    }
}
