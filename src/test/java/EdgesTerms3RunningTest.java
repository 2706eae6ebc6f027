/** The edges that part 3 of the document's terms names, sentence by sentence: RUNNING, STEPS, TROUBLES, STATEMENTS. */
public final class EdgesTerms3RunningTest {
    private static final Bench BENCH = new Bench("EdgesTerms3RunningTest");
    private static final int NONE = TallySlate.NONE;
    // a to d: a ROW, a TABLE, a PACK that is as deep as can be, and a ROW of another SIZE.
    private static final String SETTING = "fn s() { a = [1, 2, 3]; b = [[1, 2], []]; c = box(box(box(box()))); d = [1]; } fn k() { ";
    private static final String FUNCTIONS = " } fn like(x) { return x; } fn left(x, y) { return x; }";

    public static void main(String[] args) {
        variablesAreBare();
        fromTheLeft();
        stepsOfStatements();
        stepsOfRounds();
        stepsOfActs();
        stepsOfWalks();
        sizeGreatAndKind();
        unlikePlaceZeroBare();
        deepAndBulkyComeLate();
        theEleventhCall();
        stepsAreMoreThanTheFuel();
        eachStepNeedsFuel();
        stepsComeBehindParts();
        madeAreMoreThan3000();
        elevenComesLast();
        tooMuchIsTold();
        places();
        placesOfWalks();
        stepIsAheadOfDeep();
        BENCH.end();
    }

    /** Statements that have so many MADE, and use the variable zz alone. */
    private static String making(int made) {
        int rest = made % 68;
        int rounds = made / 68 - (rest < 4 ? 1 : 0);
        return "for zz in " + rounds + " { row(64); } " + (rest < 4 ? "row(60); row(" + rest + "); " : "row(" + (rest - 4) + "); ");
    }

    /** The statements run, behind those that set the shelves, into that trouble at the ^. */
    private static void set(String statements, int kind, int made) {
        String marked = SETTING + statements + FUNCTIONS;
        TallySlate x = Bench.loaded(Bench.plain(marked));
        x.run(0, NONE, 99);
        BENCH.due("run of " + statements, x.run(1, NONE, 20000), kind);
        BENCH.due("place in " + statements, x.trouble(1), kind == 0 ? NONE : marked.indexOf('^'));
        BENCH.due("MADE of " + statements, x.trouble(4), made);
    }

    private static void variablesAreBare() {
        BENCH.sentence("Terms 3", "A FUNCTION's VARIABLES are BARE at first, but PARAMETERS.");
        BENCH.trouble("fn k() { return ^x; }", 7);
        BENCH.gives("fn k() { return l(5, []); } fn l(x, y) { return box(x, y); }", "(5;[])");
        BENCH.trouble("fn k() { l(1); l(0); } fn l(x) { if (x) { y = 1; } z = ^y; }", 7);
        BENCH.trouble("fn k() { y = 1; l(1); } fn l(x) { return ^y; }", 7);
    }

    private static void fromTheLeft() {
        BENCH.sentence("Terms 3", "E are worked out from the left; a CALL's and a sign's parts ahead of it.");
        BENCH.trouble("fn k() { x = ^y + 1 / 0; }", 7);
        BENCH.trouble("fn k() { x = 1 ^/ 0 + y; }", 6);
        BENCH.trouble("fn k() { x = box() + (1 ^/ 0); }", 6);
        BENCH.trouble("fn k() { l(1 ^/ 0, y); } fn l(x, y) { }", 6);
        BENCH.trouble("fn k() { l(^y, 1 / 0); } fn l(x, y) { }", 7);
        BENCH.trouble("fn k() { x = [[], 1 ^/ 0, y]; }", 6);
        BENCH.trouble("fn k() { x = 5[1 ^/ 0]; }", 6);
        BENCH.trouble("fn k() { x = row([1 ^/ 0]); }", 6);
        TallySlate x = Bench.loaded("fn k() { return l(1) - l(2) * l(3) + [l(4), l(5)][l(0)]; } fn l(x) { say x; return x; }");
        x.run(0, 0, 99);
        BENCH.due("said", Bench.kept(x), "1\n2\n3\n4\n5\n0\n");
        BENCH.due("given", x.cell(0, 0, 0), -1);
    }

    private static void stepsOfStatements() {
        BENCH.sentence("Terms 3", "STEPS: 1 for each STATEMENT begun");
        BENCH.costs("fn k() { }", 0, 0);
        BENCH.costs("fn k() { x = 1; }", 1, 0);
        BENCH.costs("fn k() { if (1) { } }", 1, 0);
        BENCH.costs("fn k() { if (0) { x = 1; } else { x = 1; x = 2; } }", 3, 0);
        BENCH.costs("fn k() { say 1; }", 1, 0);
        BENCH.costs("fn k() { return 1; x = 1; }", 1, 0);
        BENCH.costs("fn k() { raise 1; }", 1, 0);
        BENCH.costs("fn k() { try { } on x { x = 1; } }", 1, 0);
        BENCH.costs("fn k() { try { x = 1; raise 1; } on x { x = 1; } }", 4, 300);
        BENCH.costs("fn k() { x = []; x[0] = y; }", 3, 4);
        BENCH.costs("fn k() { x = [1]; x[0] = 2; }", 3, 10);
    }

    private static void stepsOfRounds() {
        BENCH.sentence("Terms 3", "each round of while and for (ahead of looking whether there is one)");
        BENCH.costs("fn k() { while (0) { x = 1; } }", 2, 0);
        BENCH.costs("fn k() { x = 3; while (x) { x = x - 1; } }", 12, 0);
        BENCH.costs("fn k() { for x in 0 { y = 1; } }", 2, 0);
        BENCH.costs("fn k() { for x in 3 { } }", 5, 0);
        BENCH.costs("fn k() { for x in 3 { y = 1; } }", 8, 0);
        BENCH.costs("fn k() { for x in [] { } }", 3, 4);
        BENCH.costs("fn k() { for x in row(64) { } }", 67, 68);
        BENCH.costs("fn k() { for x in box(1, []) { } }", 6, 12);
        BENCH.costs("fn k() { for x in 3 { return 1; } }", 3, 0);
        BENCH.trouble("fn k() { ^while (y) { } }", 10, 1);
        BENCH.trouble("fn k() { while (^y) { } }", 7, 2);
        BENCH.trouble("fn k() { ^for x in 0 { } }", 10, 1);
        BENCH.trouble("fn k() { for x in ^y { } }", 7, 1);
    }

    private static void stepsOfActs() {
        BENCH.sentence("Terms 3", "for each sign, LITERAL, P[..], built-in, CALL");
        String[] signs = {"+", "-", "*", "/", "%", "&", "|", "==", "!=", "<", "<=", ">", ">="};
        for (String sign : signs) {
            BENCH.costs("fn k() { x = 1 " + sign + " 2; }", 2, 0);
        }
        BENCH.costs("fn k() { x = -1; }", 2, 0);
        BENCH.costs("fn k() { x = !1; }", 2, 0);
        BENCH.costs("fn k() { x = ((1)); }", 1, 0);
        BENCH.costs("fn k() { x = []; }", 2, 4);
        BENCH.costs("fn k() { x = [[], []]; }", 4, 20);
        BENCH.costs("fn k() { x = [5][0]; }", 3, 5);
        BENCH.costs("fn k() { x = [[5]][0][0]; }", 5, 5 + 9 + 5);
        BENCH.costs("fn k() { x = box(); }", 2, 4);
        BENCH.costs("fn k() { kind(1); }", 2, 0);
        BENCH.costs("fn k() { l(); } fn l() { }", 2, 0);
        BENCH.costs("fn k() { x = l() + l(); } fn l() { return 1; }", 6, 0);
    }

    private static void stepsOfWalks() {
        BENCH.sentence("Terms 3", "(of each and fold: 1 more for each CALL of the FUNCTION)");
        BENCH.costs("fn k() { each(l, []); } fn l(x) { }", 3, 8);
        BENCH.costs("fn k() { each(l, [1]); } fn l(x) { }", 4, 10);
        BENCH.costs("fn k() { each(l, [1, 2, 3]); } fn l(x) { }", 6, 14);
        BENCH.costs("fn k() { each(l, [1, 2, 3]); } fn l(x) { y = 1; }", 9, 14);
        BENCH.costs("fn k() { fold(l, 0, []); } fn l(x, y) { }", 3, 4);
        BENCH.costs("fn k() { fold(l, 0, [1, 2]); } fn l(x, y) { }", 5, 6);
        BENCH.costs("fn k() { each(l, 1); } fn l(x) { }", 2, 0);
    }

    private static void sizeGreatAndKind() {
        BENCH.sentence("Terms 3", "1 SIZE: a size below 0. 2 GREAT: more than a THING may have, be deep, or have as BULK");
        BENCH.fails("^row(-1)", 1);
        BENCH.worth("row(0)", "[]");
        BENCH.fails("^row(65)", 2);
        BENCH.fails("^box(box(box(box(box()))))", 2);
        BENCH.fails("box(iota(64))^[row(10)]", 2);
        BENCH.sentence("Terms 3", "3 KIND: no THING of a kind that is wanted.");
        BENCH.fails("^row([])", 3);
        BENCH.fails("1 ^+ box()", 3);
        BENCH.trouble("fn k() { ^if ([1]) { } }", 3);
    }

    private static void unlikePlaceZeroBare() {
        BENCH.sentence("Terms 3", "4 UNLIKE: SIZES that must be alike, and are not. 5 PLACE: there is none such. 6 ZERO: / or % by 0. 7 BARE: N has nothing.");
        BENCH.fails("[1] ^+ []", 4);
        BENCH.worth("[] + []", "[]");
        BENCH.fails("[1]^[1]", 5);
        BENCH.fails("1 ^/ 0", 6);
        BENCH.fails("1 ^% 0", 6);
        BENCH.fails("0 ^/ 0", 6);
        BENCH.worth("0 / 1", "0");
        BENCH.fails("[1, 2] ^/ [1, 0]", 6);
        BENCH.fails("[[1], [2]] ^% [[1], [0]]", 6);
        for (char shelf = 'a'; shelf <= 'h'; shelf++) {
            BENCH.fails("^" + shelf, 7);
        }
        BENCH.fails("^i", 7);
    }

    private static void deepAndBulkyComeLate() {
        BENCH.sentence("Terms 3", "(these two where a PACK comes of it, behind all else but 11)");
        set("x = c; x^[1] = c;", 5, 0);
        set("x = c; x^[d] = c;", 3, 0);
        set("x = c; x^[0] = c;", 2, 0);
        BENCH.fails("box(iota(64))^[row(10) + 1]", 5);
        BENCH.fails("box(iota(64))^[row(10)]", 2);
        set(making(3000) + "^box(c);", 2, 3000);
        set(making(3000) + "x = c; x^[0] = c;", 2, 3000);
    }

    private static void theEleventhCall() {
        BENCH.sentence("Terms 3", "9 RAISED.");
        BENCH.trouble("fn k() { ^raise 0; }", 9);
        BENCH.sentence("Terms 3", "8 DEEP: an 11th CALL that is not ended (the first one is that of run()).");
        BENCH.gives("fn k() { return l(8); } fn l(n) { if (n) { return l(n - 1) + 1; } }", "8");
        BENCH.trouble("fn k() { return l(9); } fn l(n) { if (n) { return ^l(n - 1) + 1; } }", 8);
        BENCH.gives("fn k() { return l(8); } fn l(n) { if (n) { return each(l, [n - 1])[0] + 1; } }", "8");
        BENCH.trouble("fn k() { return l(9); } fn l(n) { if (n) { return ^each(l, [n - 1])[0] + 1; } }", 8);
        BENCH.gives("fn k() { return l(8, 0); } fn l(n, m) { if (n) { return fold(l, n - 1, [m]) + 1; } }", "8");
        BENCH.trouble("fn k() { return l(9, 0); } fn l(n, m) { if (n) { return ^fold(l, n - 1, [m]) + 1; } }", 8);
        // Those that are ended don't count, however they ended.
        BENCH.gives("fn k() { for x in 20 { l(8); } return 1; } fn l(n) { if (n) { l(n - 1); } }", "1");
        BENCH.gives("fn k() { for x in 4 { try { l(8); } on y { } m(8); } return y; } fn l(n) { if (n) { l(n - 1); } raise 5; }"
                + " fn m(n) { if (n) { m(n - 1); } }", "5");
    }

    private static void stepsAreMoreThanTheFuel() {
        BENCH.sentence("Terms 3", "10 the STEPS are more than the fuel (that one isn't done).");
        TallySlate x = Bench.loaded("fn k() { say 1; say 2; say 3; }");
        BENCH.due("run with fuel 3", x.run(0, 0, 3), 0);
        BENCH.due("said", Bench.kept(x), "1\n2\n3\n");
        BENCH.due("run with fuel 2", x.run(0, 0, 2), 10);
        BENCH.due("said", Bench.kept(x), "1\n2\n");
        BENCH.due("STEPS", x.trouble(3), 2);
        BENCH.trouble("fn k() { x = 1 ^/ 0; }", 10, 1);
        BENCH.trouble("fn k() { x = 1 ^/ 0; }", 6, 2);
        BENCH.trouble("fn k() { try { x = 1 ^/ 0; } on x { } }", 10, 2);
        BENCH.tells("fn k() { x = row(5); }", 1, "10 13 0 1 0 1 0");
        BENCH.tells("fn k() { l(); } fn l() { }", 1, "10 9 0 1 0 1 0");
        BENCH.tells("fn k() { l(); } fn l() { }", 2, "0 -1 0 2 0 2 0");
        BENCH.trouble("fn k() { ^k(); }", 10, 2);
    }

    private static void eachStepNeedsFuel() {
        BENCH.sentence("Terms 3", "10 the STEPS are more than the fuel");
        TallySlate x = Bench.loaded("fn k() { x = [1, 2]; x[0] = -x[1] + l(2); for y in x { if (y < 3) { say y; } } each(l, x); return fold(m, 0, x); }"
                + " fn l(x) { while (x > 2) { x = x - 1; } return x; } fn m(x, y) { try { raise x; } on z { return z + y; } }");
        BENCH.due("run", x.run(0, 0, 20000), 0);
        int steps = x.trouble(3);
        BENCH.due("run with just so much", x.run(0, 0, steps), 0);
        for (int fuel = 1; fuel < steps; fuel++) {
            BENCH.due("run with fuel " + fuel, x.run(0, 0, fuel), 10);
            BENCH.due("STEPS with fuel " + fuel, x.trouble(3), fuel);
        }
    }

    private static void stepsComeBehindParts() {
        BENCH.sentence("Terms 3", "and ahead of what is done (behind its parts)");
        String[] parts = {"x = ^y + 1;", "x = 1 + ^y;", "x = -^y;", "x = [^y];", "x = 5[^y];", "x = row(^y);", "x = box(1, ^y);", "l(^y);",
            "each(l, ^y);", "fold(m, ^y, 1);", "fold(m, 1, ^y);"};
        for (String part : parts) {
            BENCH.trouble("fn k() { " + part + " } fn l(x) { } fn m(x, z) { }", 7, 1);
        }
        // h is a PACK; none of these is done with a fuel of 1, all have a wrong KIND with one more.
        String[] wholes = {"x = 1 ^+ h;", "x = ^[h];", "x = 5^[0];", "x = ^row(h);", "^each(l, 5);"};
        for (String whole : wholes) {
            TallySlate x = Bench.loaded("fn k() { " + Bench.plain(whole) + " } fn l(x) { } fn s() { h = box(); }");
            x.run(2, NONE, 9);
            for (int fuel = 1; fuel < 3; fuel++) {
                BENCH.due("run of " + whole + " with fuel " + fuel, x.run(0, NONE, fuel), fuel == 1 ? 10 : 3);
                BENCH.due("place of " + whole, x.trouble(1), 9 + whole.indexOf('^'));
            }
        }
    }

    private static void madeAreMoreThan3000() {
        BENCH.sentence("Terms 3", "11 the MADE are more than 3,000 in all.");
        String[][] acts = {{"x = a ^+ 0;", "7"}, {"x = ^-a;", "7"}, {"x = ^[];", "4"}, {"x = ^[1];", "5"}, {"x = ^[a];", "11"}, {"x = b^[0];", "6"},
            {"x = c^[0];", "6"}, {"^sort(a);", "7"}, {"^box(a);", "6"}, {"^grid(20, 10);", "284"}, {"a^[0] = 9;", "7"}, {"b^[0][0] = 9;", "14"},
            {"^each(like, a);", "7"}, {"^each(like, b);", "14"}, {"^each(like, c);", "6"}};
        for (String[] act : acts) {
            int made = Integer.parseInt(act[1]);
            set(making(3000 - made) + Bench.plain(act[0]), 0, 3000);
            set(making(3001 - made) + act[0], 11, 3001);
        }
        set(making(3000) + "x = a; like(x); fold(left, b, a); for y in c { x = y; } kind(a); x = 1 + 2;", 0, 3000);
    }

    private static void elevenComesLast() {
        BENCH.sentence("Terms 3", "Of one act the order is as told for it; 11 comes last");
        String[][] acts = {{"^row(65);", "2"}, {"^row(a);", "3"}, {"x = a ^+ d;", "4"}, {"x = a^[3];", "5"}, {"x = a ^/ 0;", "6"}, {"x = ^y;", "7"},
            {"a^[3] = 1;", "5"}, {"a^[0] = d;", "3"}, {"x = ^[a, 1];", "3"}, {"^raise 5;", "9"}, {"x = c ^+ 1;", "3"}, {"^join(1, b);", "3"},
            {"^pick(a, d);", "4"}, {"^max(b);", "5"}, {"^each(like, 5);", "3"}, {"b[1]^[0] = 1;", "5"}};
        for (String[] act : acts) {
            set(making(3000) + act[0], Integer.parseInt(act[1]), 3000);
        }
    }

    private static void tooMuchIsTold() {
        BENCH.sentence("Terms 3", "(what is too much is told when it is there)");
        set(making(3000) + "^grid(20, 10);", 11, 3284);
        set(making(3000) + "^row(64);", 11, 3068);
        set(making(3000) + "x = ^[];", 11, 3004);
        set(making(3000) + "^each(like, a);", 11, 3007);
        TallySlate x = Bench.loaded("fn k() { " + making(2996) + "each(l, [1]); } fn l(x) { say x; return x; }");
        BENCH.due("run", x.run(0, 0, 9999), 11);
        BENCH.due("each had not begun", x.outs(), 0);
        x = Bench.loaded("fn k() { a = [1, 2]; " + making(2988) + "each(l, a); } fn l(x) { say x; return x; }");
        BENCH.due("run", x.run(0, 0, 9999), 0);
        x = Bench.loaded("fn k() { a = [1, 2]; " + making(2989) + "each(l, a); } fn l(x) { say x; return x; }");
        BENCH.due("run", x.run(0, 0, 9999), 11);
        BENCH.due("each had all its CALLS", Bench.kept(x), "1\n2\n");
    }

    private static void places() {
        BENCH.sentence("Terms 3", "The place is where the sign, the [ of a LITERAL or P[..], the WORD of a built-in or CALL");
        BENCH.trouble("fn k() { x = 1 + [1] ^* box() - 2; }", 3);
        BENCH.trouble("fn k() { x = 1 ^<= box(); }", 3);
        BENCH.trouble("fn k() { x = 2 - ^-box(); }", 3);
        BENCH.trouble("fn k() { x = 2 + ^!box(); }", 3);
        BENCH.trouble("fn k() { x = [[1], ^[2, [3]]]; }", 3);
        BENCH.trouble("fn k() { x = [[1]][0]^[1]; }", 5);
        BENCH.trouble("fn k() { x = [[1]]^[1][0]; }", 5);
        BENCH.trouble("fn k() { x = 1 +  ^row (-1); }", 1);
        BENCH.trouble("fn k() { x = 1 + ^k(); }", 8);
        BENCH.sentence("Terms 3", "N, or the STATEMENT's first TOKEN is that does it.");
        BENCH.trouble("fn k() { x = 1 + ^y; }", 7);
        BENCH.trouble("fn k() { x = 1; ^y[0] = 1; }", 7);
        BENCH.trouble("fn k() { x = 1; ^if ([]) { } }", 3);
        BENCH.trouble("fn k() { x = 1; ^while ([]) { } }", 3);
        BENCH.trouble("fn k() { x = 1; ^for y in -1 { } }", 1);
        BENCH.trouble("fn k() { x = 1; ^raise x; }", 9);
        BENCH.trouble("fn k() { x = 1; ^raise []; }", 3);
        String[] statements = {"x = 1;", "x[0] = 1;", "if (1) { }", "while (1) { }", "for x in 1 { }", "say 1;", "return 1;", "raise 1;",
            "try { } on x { }", "k();", "row(1);", "each(l, 1);"};
        for (String statement : statements) {
            BENCH.trouble("fn k() { z = 1; ^" + statement + " } fn l(x) { }", 10, 1);
        }
    }

    private static void placesOfWalks() {
        BENCH.sentence("Terms 3", "(each, fold, also for what their CALLS' STEPS and DEEP are)");
        BENCH.trouble("fn k() { x = ^each(l, [1, 2]); } fn l(x) { }", 10, 2);
        BENCH.trouble("fn k() { x = ^each(l, [1, 2]); } fn l(x) { }", 10, 3);
        BENCH.trouble("fn k() { x = ^each(l, [1, 2]); } fn l(x) { }", 10, 4);
        BENCH.trouble("fn k() { x = ^fold(l, 0, [1, 2]); } fn l(x, y) { }", 10, 2);
        BENCH.trouble("fn k() { x = ^fold(l, 0, [1, 2]); } fn l(x, y) { }", 10, 3);
        BENCH.trouble("fn k() { x = ^fold(l, 0, [1, 2]); } fn l(x, y) { }", 10, 4);
        BENCH.trouble("fn k() { each(l, [1]); } fn l(x) { x = ^each(l, [1]); }", 8);
        BENCH.trouble("fn k() { fold(l, 0, [1]); } fn l(x, y) { x = ^fold(l, 0, [1]); }", 8);
    }

    private static void stepIsAheadOfDeep() {
        BENCH.sentence("Terms 3", "A CALL's STEP is ahead of its DEEP; run()'s own CALL is no STEP.");
        BENCH.tells("fn k() { k(); }", 20, "8 9 0 20 0 10 0");
        BENCH.tells("fn k() { k(); }", 19, "10 9 0 19 0 10 0");
        BENCH.tells("fn k() { }", 1, "0 -1 0 0 0 1 0");
        // k has 5 STEPS; l is CALLED nine times, each time with a STATEMENT, an each and a CALL of it.
        BENCH.tells("fn k() { a = [1]; each(l, a); } fn l(x) { each(l, a); }", 32, "8 42 0 32 5 10 0");
        BENCH.tells("fn k() { a = [1]; each(l, a); } fn l(x) { each(l, a); }", 31, "10 42 0 31 5 10 0");
    }
}
