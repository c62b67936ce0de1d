import java.util.function.ToLongFunction;

/** A test of its own for each sentence ahead of the promises ("What it is", "Terms") that names a boundary case. */
public final class BoundsOfTerms extends Bench {
    private static final String TERMS = "Terms";
    /** Twelve CASES in 120 bytes: no STATEMENT of a CASE is shorter than ten. */
    private static final String TWELVE = "case0 0 0;case1 0 0;case2 0 0;case3 0 0;case4 0 0;case5 0 0;"
            + "case6 0 0;case7 0 0;case8 0 0;case9 0 0;name a0 0;name b0 0;";

    private static void refused(String call, int answer, ToLongFunction<CaseCutter> made) {
        CaseCutter x = furnished();
        refuses(x, call, answer, () -> made.applyAsLong(x));
        keptIsLeft(x, call);
    }

    private static void found(String call, int finding, ToLongFunction<CaseCutter> made) {
        CaseCutter x = furnished();
        finds(x, call, finding, () -> made.applyAsLong(x));
        keptIsLeft(x, call);
    }

    /** digest() does not tell what is in the kept PROGRAMS. */
    private static void keptIsLeft(CaseCutter x, String call) {
        due(call + ", then undo(1)", x.undo(1), 1);
        due(call + ", then reach(99)", x.reach(99), 2);
        due(call + ", then on(1)", x.on(1), 1);
        due(call + ", then count(3)", x.count(3), 23);
        due(call + ", then on(0)", x.on(0), 0);
        due(call + ", then count(3)", x.count(3), 22);
    }

    private static void whatItIs() {
        sentence("What it is", "An object is used for at most 512 calls after it has been made", () -> {
            CaseCutter x = new CaseCutter();
            for (int call = 1; call <= 510; call++) {
                x.tear(0);
            }
            due("the 511th call, row(5, 40)", x.row(5, 40), 40);
            due("the 512th call, findings(1)", x.findings(1), 510);
        });
        sentence("What it is", "what any selector comes to, in how many steps, also at the edges of all numbers", () -> {
            CaseCutter x = of("range -2147483648 -2147483647 1 1;range 2147483646 2147483647 2 1;");
            dueRun(x, MIN, 1, 3);
            dueRun(x, MIN + 1, 1, 3);
            dueRun(x, MIN + 2, NONE, 3);
            dueRun(x, MAX - 2, NONE, 3);
            dueRun(x, MAX - 1, 2, 3);
            dueRun(x, MAX, 2, 3);
            x = of("case -2147483648 1 1;case 2147483647 2 1;");
            dueRun(x, MIN, 1, 2);
            dueRun(x, MIN + 1, NONE, 2);
            dueRun(x, MAX - 1, NONE, 2);
            dueRun(x, MAX, 2, 2);
            // the sides are of different STEPS, so that going the wrong one is seen
            x = of("case -2147483648 1 1;range 2147483646 2147483647 2 1;");
            dueRun(x, MIN, 1, 2);
            dueRun(x, -1, NONE, 2);
            dueRun(x, 0, NONE, 2);
            dueRun(x, MAX, 2, 3);
            x = of("range -2147483648 -2147483647 1 1;case -2147483646 2 1;");
            dueRun(x, MIN, 1, 3);
            dueRun(x, MAX, NONE, 2);
            x = of("range -2147483648 2147483647 7 9;");
            dueRun(x, MIN, 7, 2);
            dueRun(x, -1, 7, 2);
            dueRun(x, MAX, 7, 2);
        });
    }

    private static void refusals() {
        sentence(TERMS, "Refused is, the first of these that fits, in this order: BAD -1", () -> {
            refused("row(6, -1), SIZE too", BAD, x -> x.row(6, -1));
            refused("text(4, -1), SIZE too", BAD, x -> x.text(4, -1));
            refused("copy(0, 0, 6, 0, -1), SIZE too", BAD, x -> x.copy(0, 0, 6, 0, -1));
            refused("copy(6, 0, 5, 0, 1), NOTHING too", BAD, x -> x.copy(6, 0, 5, 0, 1));
            refused("mask(1, 8), UNLIKE too", BAD, x -> x.mask(1, 8));
            refused("mark(1, 5), UNLIKE too", BAD, x -> x.mark(1, 5));
            refused("jump(2, -1), BEYOND too", BAD, x -> x.jump(2, -1));
            refused("add(31, 30, 0, 0), STATE too", BAD, x -> x.add(31, 30, 0, 0));
            refused("add(0, 0, 8, 0), STATE too", BAD, x -> x.add(0, 0, 8, 0));
            CaseCutter full = withDeeds(40);
            refuses(full, "lots(1, 0), FULL too", BAD, () -> full.lots(1, 0));
            refuses(full, "lots(21, 1), FULL too", BAD, () -> full.lots(21, 1));
            refuses(full, "cut(1), FULL too", BAD, () -> full.cut(1));
            CaseCutter longOne = withCases(12);
            refuses(longOne, "write(4), SPENT too", BAD, () -> longOne.write(4));
        });
        sentence(TERMS, "FULL -2", () -> {
            due("FULL", CaseCutter.FULL, -2);
            CaseCutter x = withDeeds(40);
            refuses(x, "lots(1, 1)", -2, () -> x.lots(1, 1));
        });
        sentence(TERMS, "STATE -4 (not now)", () -> {
            due("STATE", CaseCutter.STATE, -4);
            CaseCutter x = new CaseCutter();
            refuses(x, "worst()", -4, x::worst);
            x.add(0, 0, 0, 0);
            due("worst(), now", x.worst(), 0);
        });
        sentence(TERMS, "SPENT -6 (more than told)", () -> {
            due("SPENT", CaseCutter.SPENT, -6);
            CaseCutter x = withCases(12);
            refuses(x, "write(0)", -6, () -> x.write(0));
        });
        sentence(TERMS, "FINDING -3 (finding() tells which)", () -> {
            due("FINDING", CaseCutter.FINDING, -3);
            CaseCutter x = new CaseCutter();
            due("tear(0)", x.tear(0), -3);
            due("finding()", x.finding(), 1);
            due("row(0, -1)", x.row(0, -1), -3);
            due("finding()", x.finding(), 5);
        });
        sentence(TERMS, "NONE -9", () -> {
            due("NONE", CaseCutter.NONE, -9);
            due("BAD", CaseCutter.BAD, -1);
            CaseCutter x = of("");
            due("fault(0)", x.fault(0), -9);
            due("reach(0)", x.reach(0), -9);
            due("run(0)", x.run(0), -9);
            x.add(0, 0, 0, 0);
            due("swing(0)", x.swing(0), -9);
        });
        sentence("Terms, of rows", "What is refused changes nothing but finding(), findings()", () -> {
            refused("row(-1, 1)", BAD, x -> x.row(-1, 1));
            refused("row(0, 41)", BAD, x -> x.row(0, 41));
            found("row(0, -1)", SIZE, x -> x.row(0, -1));
            refused("lay(6, 0, 1)", BAD, x -> x.lay(6, 0, 1));
            found("lay(5, 0, 1)", NOTHING, x -> x.lay(5, 0, 1));
            found("lay(0, 3, 1)", BEYOND, x -> x.lay(0, 3, 1));
            refused("at(6, 0)", BAD, x -> x.at(6, 0));
            found("at(5, 0)", NOTHING, x -> x.at(5, 0));
            found("at(0, 3)", BEYOND, x -> x.at(0, 3));
            refused("tear(6)", BAD, x -> x.tear(6));
            found("tear(5)", NOTHING, x -> x.tear(5));
            refused("copy(0, 0, 6, 0, 1)", BAD, x -> x.copy(0, 0, 6, 0, 1));
            found("copy(0, 0, 0, 1, -1)", SIZE, x -> x.copy(0, 0, 0, 1, -1));
            found("copy(0, 0, 5, 0, 1)", NOTHING, x -> x.copy(0, 0, 5, 0, 1));
            found("copy(0, 0, 0, 1, 3)", BEYOND, x -> x.copy(0, 0, 0, 1, 3));
            refused("mean(6)", BAD, x -> x.mean(6));
            found("mean(5)", NOTHING, x -> x.mean(5));
            found("mean(1)", NOUGHT, x -> x.mean(1));
            refused("hash(6)", BAD, x -> x.hash(6));
            found("hash(5)", NOTHING, x -> x.hash(5));
            found("hash(1)", SIZE, x -> x.hash(1));
            found("hash(0)", UNLIKE, x -> x.hash(0));
        });
        sentence("Terms, of texts", "What is refused changes nothing but finding(), findings()", () -> {
            refused("text(4, 1)", BAD, x -> x.text(4, 1));
            refused("text(1, 121)", BAD, x -> x.text(1, 121));
            found("text(1, -1)", SIZE, x -> x.text(1, -1));
            refused("put(4, 0, 65)", BAD, x -> x.put(4, 0, 65));
            found("put(3, 0, 65)", NOTHING, x -> x.put(3, 0, 65));
            found("put(1, 2, 65)", BEYOND, x -> x.put(1, 2, 65));
            refused("fault(4)", BAD, x -> x.fault(4));
            found("fault(3)", NOTHING, x -> x.fault(3));
            refused("program(4)", BAD, x -> x.program(4));
            found("program(3)", NOTHING, x -> x.program(3));
            refused("program(1), a FAULT", STATE, x -> x.program(1));
            refused("write(4)", BAD, x -> x.write(4));
            CaseCutter longOne = withCases(12);
            longOne.text(2, 3);
            refuses(longOne, "write(2), too much", SPENT, () -> longOne.write(2));
            refuses(longOne, "write(3), too much", SPENT, () -> longOne.write(3));
        });
        sentence("Terms, of deeds", "What is refused changes nothing but finding(), findings()", () -> {
            refused("told(3, 0)", BAD, x -> x.told(3, 0));
            refused("told(0, 4)", BAD, x -> x.told(0, 4));
            refused("add(1, 0, 0, 0)", BAD, x -> x.add(1, 0, 0, 0));
            refused("add(31, 40, 0, 0)", STATE, x -> x.add(31, 40, 0, 0));
            refused("cut(3)", BAD, x -> x.cut(3));
            refused("aim(0, 8)", BAD, x -> x.aim(0, 8));
            refused("aim(0, 1)", STATE, x -> x.aim(0, 1));
            refused("weigh(0, 10)", BAD, x -> x.weigh(0, 10));
            refused("weigh(0, 9)", STATE, x -> x.weigh(0, 9));
            refused("undo(3)", BAD, x -> x.undo(3));
            refused("undo(-1)", BAD, x -> x.undo(-1));
            refused("keep(3)", BAD, x -> x.keep(3));
            refused("on(3)", BAD, x -> x.on(3));
            found("on(2)", NOTHING, x -> x.on(2));
            refused("lots(0, 1)", BAD, x -> x.lots(0, 1));
            CaseCutter full = withDeeds(40);
            refuses(full, "add(5, 5, 0, 0)", FULL, () -> full.add(5, 5, 0, 0));
            refuses(full, "cut(0)", FULL, () -> full.cut(0));
            refuses(full, "aim(0, 5)", FULL, () -> full.aim(0, 5));
            refuses(full, "weigh(0, 5)", FULL, () -> full.weigh(0, 5));
            refuses(full, "lots(1, 1)", FULL, () -> full.lots(1, 1));
            CaseCutter twelve = withCases(12);
            refuses(twelve, "add(5, 5, 0, 0), 12 CASES", FULL, () -> twelve.add(5, 5, 0, 0));
        });
        sentence("Terms, of the plan", "What is refused changes nothing but finding(), findings()", () -> {
            refused("part(2, 0)", BAD, x -> x.part(2, 0));
            refused("part(0, 6)", BAD, x -> x.part(0, 6));
            refused("mark(2, 1)", BAD, x -> x.mark(2, 1));
            refused("mark(0, 0)", BAD, x -> x.mark(0, 0));
            found("mark(0, 1)", UNLIKE, x -> x.mark(0, 1));
            refused("jump(2, 0)", BAD, x -> x.jump(2, 0));
            found("jump(0, 0)", UNLIKE, x -> x.jump(0, 0));
            refused("mask(2, 0)", BAD, x -> x.mask(2, 0));
            refused("mask(0, 8)", BAD, x -> x.mask(0, 8));
            found("mask(1, 2)", UNLIKE, x -> x.mask(1, 2));
            refused("only(0)", BAD, x -> x.only(0));
            refused("swing(3)", BAD, x -> x.swing(3));
            refused("covered(1, 0)", BAD, x -> x.covered(1, 0));
            refused("count(12)", BAD, x -> x.count(12));
            refused("findings(6)", BAD, x -> x.findings(6));
            CaseCutter rowed = of("case 0 1 0;case 1 2 0;case 2 3 0;");
            finds(rowed, "jump(0, 3)", BEYOND, () -> rowed.jump(0, 3));
            CaseCutter empty = new CaseCutter();
            refuses(empty, "worst()", STATE, empty::worst);
        });
    }

    private static void findings() {
        sentence(TERMS, "1 NOTHING (a ROW, a TEXT, a kept PROGRAM that is missing)", () -> {
            CaseCutter x = new CaseCutter();
            finds(x, "at(0, 0)", 1, () -> x.at(0, 0));
            finds(x, "fault(0)", 1, () -> x.fault(0));
            finds(x, "on(0)", 1, () -> x.on(0));
        });
        sentence(TERMS, "2 BEYOND (a place that there is not)", () -> {
            CaseCutter x = of("case 0 1 0;case 1 2 0;case 2 3 0;");
            x.row(0, 0);
            finds(x, "at(0, 0)", 2, () -> x.at(0, 0));
            finds(x, "put(0, 33, 1)", 2, () -> x.put(0, 33, 1));
            finds(x, "jump(0, 3)", 2, () -> x.jump(0, 3));
        });
        sentence(TERMS, "3 UNLIKE (a PART of another SORT; a number that is none)", () -> {
            CaseCutter x = of("case 0 1 0;");
            x.row(0, 1);
            x.lay(0, 0, 26);
            finds(x, "mark(0, 2)", 3, () -> x.mark(0, 2));
            finds(x, "hash(0)", 3, () -> x.hash(0));
        });
        sentence(TERMS, "4 NOUGHT (shared among none)", () -> {
            CaseCutter x = new CaseCutter();
            x.row(0, 0);
            finds(x, "mean(0)", 4, () -> x.mean(0));
        });
        sentence(TERMS, "5 SIZE (fewer than none; not as many as due)", () -> {
            CaseCutter x = new CaseCutter();
            finds(x, "row(0, -1)", 5, () -> x.row(0, -1));
            finds(x, "text(0, -1)", 5, () -> x.text(0, -1));
            x.row(0, 7);
            finds(x, "hash(0)", 5, () -> x.hash(0));
        });
    }

    private static void rowsAndTexts() {
        sentence(TERMS, "ROWS 0 .. 5 are rows of 0 to 40 ints", () -> {
            CaseCutter x = new CaseCutter();
            for (int r = 0; r <= 5; r++) {
                due("row(" + r + ", 0)", x.row(r, 0), 0);
                due("row(" + r + ", 40)", x.row(r, 40), 40);
                tells(x, "lay(" + r + ", 39, " + r + ")", x.lay(r, 39, 100 + r), 0);
            }
            for (int r = 0; r <= 5; r++) {
                tells(x, "at(" + r + ", 39)", x.at(r, 39), 100 + r);
            }
            for (int r : new int[] {-1, 6, MIN, MAX}) {
                refuses(x, "row(" + r + ", 1)", BAD, () -> x.row(r, 1));
            }
            due("count(9)", x.count(9), 6);
        });
        sentence(TERMS, "TEXTS 0 .. 3 rows of 0 to 120 bytes", () -> {
            CaseCutter x = new CaseCutter();
            for (int t = 0; t <= 3; t++) {
                due("text(" + t + ", 0)", x.text(t, 0), 0);
                due("text(" + t + ", 120)", x.text(t, 120), 120);
                due("put(" + t + ", 119, 97)", x.put(t, 119, 97 + t), 1032);
            }
            for (int t = 0; t <= 3; t++) {
                due("put(" + t + ", 119, 0)", x.put(t, 119, 0), 1097 + t);
            }
            for (int t : new int[] {-1, 4, MIN, MAX}) {
                refuses(x, "text(" + t + ", 1)", BAD, () -> x.text(t, 1));
            }
            due("count(10)", x.count(10), 4);
        });
        sentence(TERMS, "or missing (at first)", () -> {
            for (int r = 0; r <= 5; r++) {
                CaseCutter x = new CaseCutter();
                int row = r;
                finds(x, "at(" + r + ", 0)", NOTHING, () -> x.at(row, 0));
                if (r <= 3) {
                    finds(x, "put(" + r + ", 0, 32)", NOTHING, () -> x.put(row, 0, 32));
                }
            }
        });
    }

    private static void cases() {
        sentence(TERMS, "CASES (12 at most)", () -> {
            CaseCutter x = withCases(11);
            due("the 12th", x.add(-1, -1, 0, 0), 0);
            refuses(x, "the 13th", FULL, () -> x.add(-2, -2, 0, 0));
            due("count(0)", x.count(0), 12);
            x.cut(11);
            due("the 12th again", x.add(-2, -2, 0, 0), 0);
        });
        sentence(TERMS, "have a LOW and a HIGH (ints, LOW not above HIGH)", () -> {
            CaseCutter x = new CaseCutter();
            refuses(x, "add(6, 5, 0, 0)", BAD, () -> x.add(6, 5, 0, 0));
            refuses(x, "add(MAX, MIN, 0, 0)", BAD, () -> x.add(MAX, MIN, 0, 0));
            due("add(5, 5, 0, 0)", x.add(5, 5, 0, 0), 0);
            due("add(6, 7, 0, 0)", x.add(6, 7, 0, 0), 1);
            x.undo(0);
            due("add(MIN, MAX, 0, 0)", x.add(MIN, MAX, 0, 0), 0);
            dueCase(x, 0, MIN, MAX, 0, 0);
        });
        sentence(TERMS, "all between, both too, are theirs", () -> {
            CaseCutter x = of("range -3 3 1 1;range 5 5 2 1;");
            for (int n = -3; n <= 3; n++) {
                due("reach(" + n + ")", x.reach(n), 1);
                due("covered(" + n + ", " + n + ")", x.covered(n, n), 1);
            }
            for (int n : new int[] {-4, 4, 6}) {
                none(x, "reach(" + n + ")", () -> x.reach(n));
            }
            due("reach(5)", x.reach(5), 2);
        });
        sentence(TERMS, "an AIM (0 .. 7)", () -> {
            CaseCutter x = new CaseCutter();
            due("add of AIM 0", x.add(0, 0, 0, 0), 0);
            due("add of AIM 7", x.add(1, 1, 7, 0), 1);
            for (int a : new int[] {-1, 8, MIN, MAX}) {
                refuses(x, "add of AIM " + a, BAD, () -> x.add(2, 2, a, 0));
                refuses(x, "aim(0, " + a + ")", BAD, () -> x.aim(0, a));
            }
            due("aim(0, 7)", x.aim(0, 7), 0);
            due("aim(1, 0)", x.aim(1, 0), 7);
            dueFault("case 1 0 0;case 2 7 0;", NONE);
            dueFault("case 1 8 0;", 7);
            dueFault("case 1 -1 0;", 7);
        });
        sentence(TERMS, "a WEIGHT (0 .. 9)", () -> {
            CaseCutter x = new CaseCutter();
            due("add of WEIGHT 0", x.add(0, 0, 0, 0), 0);
            due("add of WEIGHT 9", x.add(1, 1, 0, 9), 1);
            for (int w : new int[] {-1, 10, MIN, MAX}) {
                refuses(x, "add of WEIGHT " + w, BAD, () -> x.add(2, 2, 0, w));
                refuses(x, "weigh(0, " + w + ")", BAD, () -> x.weigh(0, w));
            }
            due("weigh(0, 9)", x.weigh(0, 9), 0);
            due("weigh(1, 0)", x.weigh(1, 0), 9);
            dueFault("case 1 0 0;case 2 0 9;", NONE);
            dueFault("case 1 0 10;", 9);
            dueFault("case 1 0 -1;", 9);
        });
        sentence(TERMS, "no number is in two", () -> {
            CaseCutter x = of("range 10 20 1 1;case -2147483648 0 0;case 2147483647 0 0;");
            int[][] shared = {{20, 30}, {0, 10}, {0, 30}, {10, 20}, {12, 13}, {10, 10}, {20, 20},
                {MAX, MAX}, {MIN, MIN}, {21, MAX}, {MIN, 9}};
            for (int[] s : shared) {
                refuses(x, "add(" + s[0] + ", " + s[1] + ", 0, 0)", STATE, () -> x.add(s[0], s[1], 0, 0));
            }
            due("add(21, MAX - 1, 0, 0)", x.add(21, MAX - 1, 0, 0), 2);
            due("add(MIN + 1, 9, 0, 0)", x.add(MIN + 1, 9, 0, 0), 1);
            due("covered(MIN, MAX)", x.covered(MIN, MAX), 1L << 32);
        });
        sentence(TERMS, "They are 0, 1, .. by LOW", () -> {
            CaseCutter x = of("case 2147483647 3 0;case -2147483648 0 0;range -1 5 1 0;case 6 2 0;");
            for (int i = 0; i < 4; i++) {
                tells(x, "told(" + i + ", 2)", x.told(i, 2), i);
            }
            due("add between", x.add(-5, -2, 0, 0), 1);
            due("cut(0)", x.cut(0), 4);
            tells(x, "told(0, 0)", x.told(0, 0), -5);
            tells(x, "told(3, 0)", x.told(3, 0), MAX);
        });
        sentence(TERMS, "REST (0 .. 9; 0 at first) is the WEIGHT of all other numbers", () -> {
            due("REST of a new object", new CaseCutter().count(7), 0);
            for (int rest = 0; rest <= 9; rest += 9) {
                CaseCutter x = of("case 0 0 1;rest " + rest + ";");
                due("count(7)", x.count(7), rest);
                due("count(3)", x.count(3), 1 + rest);
                due("cost(), no other numbers", x.cost(), 1);
            }
            dueFault("rest 10;", 5);
            dueFault("rest -1;", 5);
        });
    }

    private static void hashes() {
        sentence(TERMS, "a NAME (1 to 6 letters a .. z)", () -> {
            dueFault("name a 0 0;name zzzzzz 0 0;", NONE);
            dueFault("name zzzzzzz 0 0;", 5);
            dueFault("name ;", 5);
            dueFault("name A 0 0;", 5);
        });
        sentence(TERMS, "from 0 on, for each letter, 31 times it and the letter's byte (97 .. 122), as ints go round", () -> {
            // 31^5 * 122 is more than ints tell: it goes round
            CaseCutter x = of("name a 0 0;name z 1 0;name az 2 0;name zzzzzz 3 0;name azazaz 4 0;");
            due("reach(97)", x.reach(97), 0);
            due("reach(122)", x.reach(122), 1);
            due("reach(97 * 31 + 122)", x.reach(97 * 31 + 122), 2);
            due("reach(-685785664)", x.reach(-685785664), 3);
            long round = 0;
            for (char c : "azazaz".toCharArray()) {
                round = 31 * round + c;
            }
            due("reach of azazaz", x.reach((int) (round % (1L << 32))), 4);
        });
    }

    private static void words() {
        sentence(TERMS, "A PROGRAM (no CASES at first)", () -> {
            CaseCutter x = new CaseCutter();
            due("count(0)", x.count(0), 0);
            refuses(x, "told(0, 0)", BAD, () -> x.told(0, 0));
            none(x, "reach(0)", () -> x.reach(0));
        });
        sentence(TERMS, "is a TEXT of STATEMENTS", () -> {
            dueFault("", NONE);
            dueFault("rest 0;", NONE);
            dueFault(TWELVE, NONE);
            dueFault(";", 0);
        });
        sentence(TERMS, "blanks (32) ahead, between TOKENS, behind as many as wanted", () -> {
            dueFault(" ", NONE);
            dueFault(" ".repeat(120), NONE);
            dueFault("   case   5   1   3   ;   rest   2   ;   ", NONE);
            dueFault("case5 1 3;range-5-2 7 9;name ab0 0;rest9;", NONE);
            dueFault(" ".repeat(110) + "case0 0 0;", NONE);
            dueFault("case0 0 0;" + " ".repeat(110), NONE);
            CaseCutter x = of("  case   -5  1   3  ; ");
            dueCase(x, 0, -5, -5, 1, 3);
        });
        sentence(TERMS, "each ended by ; (59)", () -> {
            dueFault("case 1 2 3 case 2 2 3;", 11);
            dueFault("case 1 2 3", 10);
            dueFault("case 1 2 3:", 10);
            dueFault("case 1 2 3;;", 11);
            dueFault("rest 1 rest", 7);
        });
        sentence(TERMS, "case V T W (LOW, HIGH V, AIM T, WEIGHT W)", () -> {
            CaseCutter x = of("case -2147483648 7 9;case 2147483647 0 0;");
            dueCase(x, 0, MIN, MIN, 7, 9);
            dueCase(x, 1, MAX, MAX, 0, 0);
            dueCase(of("case 5 7 0;"), 0, 5, 5, 7, 0);
            dueCase(of("case 5 0 9;"), 0, 5, 5, 0, 9);
        });
        sentence(TERMS, "range A B T W", () -> {
            dueCase(of("range -2147483648 2147483647 7 9;"), 0, MIN, MAX, 7, 9);
            dueCase(of("range 5 5 6 8;"), 0, 5, 5, 6, 8);
            dueCase(of("range -2147483648 -2147483648 0 0;"), 0, MIN, MIN, 0, 0);
        });
        sentence(TERMS, "name N T W (LOW, HIGH the HASH of N)", () -> {
            dueCase(of("name a 7 9;"), 0, 97, 97, 7, 9);
            dueCase(of("name case 0 0;"), 0, "case".hashCode(), "case".hashCode(), 0, 0);
            dueCase(of("name zzzzzz 1 2;"), 0, -685785664, -685785664, 1, 2);
        });
        sentence(TERMS, "rest W (once at most)", () -> {
            dueFault("rest 0;", NONE);
            dueFault("rest 9;case 1 2 3;", NONE);
            dueFault("rest 0;rest 0;", 7);
            dueFault("rest 5;case 1 2 3;rest 5;", 18);
        });
        sentence(TERMS, "WORDS (letters a .. z side by side)", () -> {
            dueFault("ca se 1 2 3;", 0);
            dueFault("Case 1 2 3;", 0);
            dueFault("name az 1 2;", NONE);
            // ` is the byte ahead of a, { the one behind z
            dueFault("name `z 1 2;", 5);
            dueFault("name a` 1 2;", 6);
            dueFault("name {z 1 2;", 5);
            dueFault("name a{ 1 2;", 6);
            dueFault("case` 1 2 3;", 4);
            dueFault("case{ 1 2 3;", 4);
            dueFault("name a b 1;", 7);
        });
        sentence(TERMS, "NUMBERS (perhaps - (45) ahead, figures side by side, 0 ahead of others, too)", () -> {
            CaseCutter x = of("case 0000000000000000000000000000000000000007 007 009;case -0010 0 0;");
            dueCase(x, 0, -10, -10, 0, 0);
            dueCase(x, 1, 7, 7, 7, 9);
            dueCase(of("case -0 -0 -0;"), 0, 0, 0, 0, 0);
            dueCase(of("case 0123456789 1 1;"), 0, 123456789, 123456789, 1, 1);
            dueFault("case +1 2 3;", 5);
            // / is the byte ahead of 0, : the one behind 9
            dueFault("case 1/ 2 3;", 6);
            dueFault("case /1 2 3;", 5);
            dueFault("case 1: 2 3;", 6);
            dueFault("case :1 2 3;", 5);
            dueFault("case -/ 2 3;", 5);
            dueFault("case -: 2 3;", 5);
            dueFault("case 1 2 3 4;", 11);
            dueFault("case 1-5 2 3;", 6);
        });
    }

    private static void faults() {
        sentence(TERMS, "A FAULT is the place of the first byte of the first TOKEN that can't stand there", () -> {
            dueFault("  case   x  y;", 9);
            dueFault("case 1 8 10;", 7);
            dueFault("case 1 2 33;?", 9);
            dueFault("case 5 1 1;range 5 2 9 9", 17);
            dueFault("rest 1;rest x;?", 7);
            dueFault("name 5 1 1;", 5);
            dueFault("case name 1 1;", 5);
            dueFault("5 case", 0);
        });
        sentence(TERMS, "a WORD that begins none", () -> {
            dueFault("xase 1 2 3;", 0);
            dueFault("bange 1 2 3 4;", 0);
            dueFault("fame a 1 2;", 0);
            dueFault("best 1;", 0);
            dueFault("casf 1 2 3;", 0);
            dueFault("cas 1 2 3;", 0);
            dueFault("cases 1 2 3;", 0);
            dueFault("rang 1 2 3 4;", 0);
            dueFault("ranges 1 2 3 4;", 0);
            dueFault("names a 1 2;", 0);
            dueFault("rests 1;", 0);
            dueFault("rest 1; a", 8);
            dueFault("z", 0);
        });
        sentence(TERMS, "rest again", () -> {
            dueFault("rest 1;  rest 1;", 9);
            dueFault("rest 1;rest", 7);
            dueFault("rest 0;case 1 1 1;rest 10;", 18);
        });
        sentence(TERMS, "a 13th CASE: its first WORD", () -> {
            // a 13th can't be told: twelve take all 120 bytes at least; so the twelfth has to be no FAULT
            due("bytes", TWELVE.length(), 120);
            dueFault(TWELVE, NONE);
            due("program of twelve", of(TWELVE).count(0), 12);
            // the twelfth, shortened by its end, is still to come: the TEXT ends too early
            dueFault(TWELVE.substring(0, 119), 119);
            dueFault(TWELVE.substring(0, 114), 114);
        });
        sentence(TERMS, "a number out of those that may be", () -> {
            dueFault("case 2147483647 0 0;case -2147483648 0 0;", NONE);
            dueFault("case 2147483648 0 0;", 5);
            dueFault("case -2147483649 0 0;", 5);
            dueFault("range 0 2147483647 0 0;", NONE);
            dueFault("range 0 2147483648 0 0;", 8);
            dueFault("range -2147483649 0 0 0;", 6);
            dueFault("range 2147483648 2147483649 0 0;", 6);
            // 2^32 and 1, 2^64 and 1, 10^100: they must not go round to numbers that may be
            dueFault("case 4294967297 0 0;", 5);
            dueFault("case -4294967295 0 0;", 5);
            dueFault("case 18446744073709551617 0 0;", 5);
            dueFault("case 1" + "0".repeat(100) + " 0 0;", 5);
            dueFault("case -1" + "0".repeat(100) + " 0 0;", 5);
            // the edges with figures more behind them: what is more must not be dropped
            dueFault("case 21474836470 0 0;", 5);
            dueFault("case -21474836480 0 0;", 5);
            dueFault("range 0 21474836470 0 0;", 8);
            dueFault("case 0 0" + "0".repeat(20) + "70 0;", 7);
            dueFault("case 0 0 0" + "0".repeat(20) + "90;", 9);
            dueFault("case 0 4294967296 0;", 7);
            dueFault("case 0 0 18446744073709551616;", 9);
            dueFault("case 0 8 0;", 7);
            dueFault("case 0 -1 0;", 7);
            dueFault("case 0 7 10;", 9);
            dueFault("case 0 7 -1;", 9);
            dueFault("rest 10;", 5);
            dueFault("rest -1;", 5);
            dueFault("rest 4294967296;", 5);
        });
        sentence(TERMS, "B less than A: that", () -> {
            dueFault("range 3 2 1 1;", 8);
            dueFault("range 3 3 1 1;", NONE);
            dueFault("range -3 -4 1 1;", 9);
            dueFault("range 2147483647 -2147483648 1 1;", 17);
            dueFault("case 2 1 1;range 3 2 1 1;", 19);
        });
        sentence(TERMS, "one that is another CASE's, too: at V", () -> {
            dueFault("case 1 2 3;case 1 2 3;", 16);
            dueFault("case 1 2 3;case 01 2 3;", 16);
            dueFault("case 1 2 3;case 1", 16);
            dueFault("range 1 9 1 1;case 1 1 1;", 19);
            dueFault("range 1 9 1 1;case 9 1 1;", 19);
            dueFault("range 1 9 1 1;case 5 1 1;", 19);
            dueFault("range 1 9 1 1;case 0 1 1;case 10 1 1;", NONE);
            dueFault("name a 1 1;case 97 1 1;", 16);
        });
        sentence(TERMS, "at A if A is, else at B", () -> {
            dueFault("case 5 1 1;range 5 6 1 1;", 17);
            dueFault("case 5 1 1;range 5 5 1 1;", 17);
            dueFault("case 5 1 1;range 5", 17);
            dueFault("range 1 5 1 1;range 5 9 1 1;", 20);
            dueFault("case 5 1 1;range 4 5 1 1;", 19);
            dueFault("case 5 1 1;range 4 6 1 1;", 19);
            dueFault("case 5 1 1;range -2147483648 2147483647 1 1;", 29);
            dueFault("range 1 5 1 1;range 0 9 1 1;", 22);
            dueFault("case 5 1 1;range 6 8 1 1;range 1 4 1 1;", NONE);
        });
        sentence(TERMS, "at N", () -> {
            dueFault("case 97 1 1;name a 1 1;", 17);
            dueFault("name a 1 1;name a 1 1;", 16);
            dueFault("range 90 97 1 1;name a", 21);
            dueFault("range 97 99 1 1;name a 1 1;", 21);
            dueFault("range 90 96 1 1;name a 1 1;", NONE);
        });
        sentence(TERMS, "a WORD of more than 6 letters as a NAME", () -> {
            dueFault("name abcdef 1 1;", NONE);
            dueFault("name abcdefg 1 1;", 5);
            dueFault("name " + "z".repeat(115), 5);
        });
        sentence(TERMS, "of a byte that begins no TOKEN", () -> {
            for (int b = -128; b < 128; b++) {
                CaseCutter x = new CaseCutter();
                type(x, 0, "case 1 2 3_;");
                x.put(0, 10, b);
                // a figure makes the WEIGHT 30 .. 39; behind ; another one can't stand
                int want = b == ' ' ? NONE : b == ';' ? 11 : b >= '0' && b <= '9' ? 9 : 10;
                due("fault with byte " + b, x.fault(0), want);
                x.text(1, 3);
                x.put(1, 1, b);
                due("fault of byte " + b + " alone", x.fault(1), b == ' ' ? NONE : 1);
            }
        });
        sentence(TERMS, "a - without a figure behind, that TOKEN's", () -> {
            dueFault("case - 2 3;", 5);
            dueFault("case -", 5);
            dueFault("case -;", 5);
            dueFault("case --2 3 4;", 5);
            dueFault("case -a 3 4;", 5);
            dueFault("case -/ 3 4;", 5);
            dueFault("case -: 3 4;", 5);
            dueFault("case 1 2 3-;", 10);
            dueFault("-", 0);
        });
        sentence(TERMS, "the TEXT's size, if it ends too early", () -> {
            String whole = "range 1 2 3 4;";
            for (int end : new int[] {5, 6, 7, 8, 9, 10, 11, 12, 13}) {
                dueFault(whole.substring(0, end), end);
                dueFault(whole.substring(0, end) + "   ", end + 3);
            }
            dueFault("case", 4);
            dueFault("case 1 2 3", 10);
            dueFault("name", 4);
            dueFault("name a", 6);
            dueFault("name a 1 1", 10);
            dueFault("rest", 4);
            dueFault("rest 1", 6);
            dueFault("rest" + " ".repeat(116), 120);
            dueFault(" ".repeat(110) + "case 1 2 3", 120);
            dueFault(" ".repeat(116) + "name", 120);
            dueFault(" ".repeat(114) + "name a", 120);
            // what a longer TEXT told ahead is not read on
            CaseCutter x = new CaseCutter();
            type(x, 0, "rest 1;case 5 5 5;");
            x.fault(0);
            type(x, 0, "rest 1");
            due("fault of a shorter TEXT", x.fault(0), 6);
            type(x, 1, "rest 00000001;");
            x.fault(1);
            due("fault of a shorter TEXT", x.fault(0), 6);
        });
    }

    private static void deeds() {
        sentence(TERMS, "These are DEEDS (40 at most)", () -> {
            CaseCutter x = withDeeds(39);
            due("the 40th, ADDED", x.add(5, 5, 0, 0), 1);
            refuses(x, "the 41st, ADDED", FULL, () -> x.add(6, 6, 0, 0));
            x.undo(39);
            due("the 40th, CUT", x.cut(0), 0);
            refuses(x, "the 41st, ADDED", FULL, () -> x.add(6, 6, 0, 0));
            x.undo(39);
            due("the 40th, AIMED", x.aim(0, 5), 1);
            refuses(x, "the 41st, AIMED", FULL, () -> x.aim(0, 6));
            refuses(x, "the 41st, CUT", FULL, () -> x.cut(0));
            x.undo(39);
            due("the 40th, WEIGHED", x.weigh(0, 5), 0);
            refuses(x, "the 41st, WEIGHED", FULL, () -> x.weigh(0, 6));
            due("count(8)", x.count(8), 40);
        });
    }

    private static void parts() {
        sentence(TERMS, "Its SPAN is how many numbers there are from its first LOW to its last HIGH (both too)", () -> {
            due("SPAN of one", spanOf("case 5 1 1;"), 1);
            due("SPAN of two", spanOf("range 5 6 1 1;"), 2);
            due("SPAN of many CASES", spanOf("case -1 1 0;case 0 2 0;case 1 3 0;"), 3);
            due("SPAN of half of all", spanOf("range 1 2147483647 1 1;"), MAX);
        });
        sentence(TERMS, "A PART is one CASE or some, one behind the other by numbers", () -> {
            // all CASES are in PARTS, each in one: the first, one, all twelve
            duePart(of("case 5 1 1;"), 0, POINT, 0, 0);
            CaseCutter x = new CaseCutter();
            for (int i = 0; i < 12; i++) {
                x.add(5 * i, 5 * i + 1, i % 8, 9);
            }
            duePart(x, 0, ROWED, 0, 11, 0, 3, 57);
            CaseCutter y = of("case 0 1 0;case 1 2 0;case 2 3 0;range 3 999 4 9;range 1000 1001 5 0;range 1002 1003 6 0;");
            duePart(y, 0, ROWED, 0, 2);
            duePart(y, 1, LONE, 3, 3);
            duePart(y, 2, ROWED, 4, 5);
            due("count(1)", y.count(1), 3);
        });
        sentence(TERMS, "SORTS: 0 PART", () -> {
            for (String words : new String[] {"case 0 1 1;", "range 0 9 1 1;", "case 0 1 0;case 31 2 0;"}) {
                CaseCutter x = of(words);
                refuses(x, "mark(0, 0) of " + words, BAD, () -> x.mark(0, 0));
            }
        });
        sentence(TERMS, "1 LONE (one CASE alone; a PART)", () -> {
            duePart(of("range 0 100 1 1;"), 0, LONE, 0, 0, 0, 2, 101);
            // side by side and of one AIM, but two CASES
            CaseCutter x = of("range 0 50 1 1;range 51 100 1 1;");
            due("count(1)", x.count(1), 2);
            due("count(4)", x.count(4), 2);
        });
        sentence(TERMS, "2 ROWED (SPAN is 64 at most", () -> {
            duePart(of("range 0 6 1 0;range 30 37 2 0;case 63 3 0;"), 0, ROWED, 0, 2, 0, 3, 64);
            duePart(of("range 0 40 1 9;range 50 55 2 9;case 63 3 9;"), 0, ROWED, 0, 2, 0, 3, 64);
            CaseCutter x = of("range 0 19 1 0;range 30 37 2 0;case 64 3 0;");
            due("65: count(1)", x.count(1), 2);
            duePart(x, 0, LONE, 0, 0, 1, 2, 20);
            // all numbers: no SPAN that goes round to a small one
            x = of("range -2147483648 0 1 0;range 1 2147483647 2 0;");
            due("all: count(5)", x.count(5), 0);
            due("all: count(1)", x.count(1), 2);
        });
        sentence(TERMS, "and no more than 4 times how many of these are CASES'; a PART)", () -> {
            duePart(of("case 0 1 0;case 1 2 0;case 11 3 0;"), 0, ROWED, 0, 2, 0, 3, 12);
            CaseCutter x = of("case 0 1 0;case 1 2 0;case 12 3 0;");
            due("13 of which 3: count(5)", x.count(5), 0);
            due("13 of which 3: count(1)", x.count(1), 2);
            x = of("range 0 5 1 0;range 30 37 2 0;case 63 3 0;");
            due("64 of which 15: count(1)", x.count(1), 2);
        });
        sentence(TERMS, "3 MASKED (SPAN is 32 at most", () -> {
            duePart(of("case 0 1 0;case 31 2 0;"), 0, MASKED, 0, 1, 0, 3, 32);
            CaseCutter x = of("case 0 1 0;case 32 2 0;");
            due("33: count(1)", x.count(1), 2);
            duePart(of("range 0 1 1 9;range 30 31 1 9;"), 0, MASKED, 0, 1, 0, 2, 32);
            due("33: count(6)", of("range 0 1 1 9;range 31 32 1 9;").count(6), 0);
            // not even if it was MASKED till then
            x = of("case 0 1 0;case 31 2 0;");
            due("32: count(6)", x.count(6), 1);
            x.cut(1);
            x.add(32, 32, 2, 0);
            due("33: count(6)", x.count(6), 0);
            x = of("range -2147483648 0 1 0;range 1 2147483647 1 0;");
            due("all: count(6)", x.count(6), 0);
        });
        sentence(TERMS, "AIMS are 2 at most; a PART)", () -> {
            duePart(of("case 0 7 0;case 15 0 0;case 31 7 0;"), 0, MASKED, 0, 2, 0, 3, 32);
            CaseCutter x = of("case 0 7 0;case 15 0 0;case 31 1 0;");
            due("three AIMS: count(1)", x.count(1), 2);
            duePart(x, 0, POINT, 0, 0, 1, 1, 1);
            duePart(x, 1, MASKED, 1, 2, 1, 3, 17);
        });
        sentence(TERMS, "4 POINT (a LONE one whose SPAN is 1)", () -> {
            duePart(of("case 5 1 1;"), 0, POINT, 0, 0, 0, 1, 1);
            duePart(of("range 5 5 1 1;"), 0, POINT, 0, 0, 0, 1, 1);
            duePart(of("range 5 6 1 1;"), 0, LONE, 0, 0, 0, 2, 2);
            duePart(of("case 2147483647 1 1;"), 0, POINT, 0, 0, 0, 1, 1);
            duePart(of("case -2147483648 1 1;"), 0, POINT, 0, 0, 0, 1, 1);
        });
    }

    private static int spanOf(String words) {
        CaseCutter x = of(words);
        x.part(0, 5);
        return x.asked();
    }

    private static void steps() {
        sentence(TERMS, "STEPS of a PART: of a POINT 1, of another LONE one 2", () -> {
            due("cost of a POINT", of("case 5 1 9;").cost(), 9);
            due("cost of two numbers", of("range 5 6 1 9;").cost(), 18);
            due("cost of all numbers", of("range -2147483648 2147483647 1 9;").cost(), 18);
        });
        sentence(TERMS, "of a ROWED one 3", () -> {
            CaseCutter x = of("range 0 1 1 9;range 2 3 2 9;range 4 5 3 9;");
            duePart(x, 0, ROWED, 0, 2, 0, 3, 6);
            due("cost()", x.cost(), 81);
        });
        sentence(TERMS, "of a MASKED one 1 and as many as it has AIMS", () -> {
            CaseCutter x = of("range 0 1 1 9;range 30 31 1 9;");
            duePart(x, 0, MASKED, 0, 1, 0, 2, 32);
            due("cost() of one AIM", x.cost(), 36);
            // at two AIMS 3 STEPS: 54, as dear as a COMPARISON (18) and two LONE ones (36); the PART is ahead
            x = of("range 0 1 1 9;range 30 31 2 9;");
            duePart(x, 0, MASKED, 0, 1, 0, 3, 32);
            due("cost() of two AIMS", x.cost(), 54);
        });
        sentence(TERMS, "It has as many as the least of the SORTS that it can be", () -> {
            // ROWED (3) or MASKED of one AIM (2)
            duePart(of("range 0 1 1 1;range 2 3 1 1;"), 0, MASKED, 0, 1, 0, 2, 4);
            // POINT (1) or MASKED of one AIM (2)
            duePart(of("case 0 1 1;"), 0, POINT, 0, 0, 0, 1, 1);
        });
        sentence(TERMS, "(POINT, LONE, ROWED, MASKED; of like ones the first in this order)", () -> {
            // LONE (2) or MASKED of one AIM (2)
            duePart(of("range 0 1 1 1;"), 0, LONE, 0, 0, 0, 2, 2);
            // ROWED (3) or MASKED of two AIMS (3)
            duePart(of("range 0 1 1 1;range 2 3 2 1;"), 0, ROWED, 0, 1, 0, 3, 4);
        });
    }

    private static void thePlan() {
        sentence(TERMS, "one PART of them, which costs its STEPS times all their WEIGHTS together", () -> {
            due("WEIGHTS 4, 5", of("range 0 1 1 4;range 2 3 1 5;").cost(), 18);
            due("WEIGHTS 0, 0", of("range 0 1 1 0;range 2 3 1 0;").cost(), 0);
            due("WEIGHTS 9, 9", of("range 0 1 1 9;range 2 3 1 9;").cost(), 36);
        });
        sentence(TERMS, "or a COMPARISON between two of them, which costs 1 time all their WEIGHTS together", () -> {
            due("WEIGHTS 4, 5", of("case 0 1 4;case 1000 2 5;").cost(), 9 + 4 + 5);
            due("WEIGHTS 0, 9", of("case 0 1 0;case 1000 2 9;").cost(), 9 + 9);
            due("WEIGHTS 0, 0", of("case 0 1 0;case 1000 2 0;").cost(), 0);
            // twelve spans of WEIGHT 9, far apart: eight behind 4 COMPARISONS, four behind 3
            CaseCutter x = new CaseCutter();
            for (int i = 0; i < 12; i++) {
                x.add(1000 * i, 1000 * i + 1, i % 8, 9);
            }
            due("the dearest", x.cost(), 9 * (8 * (4 + 2) + 4 * (3 + 2)));
        });
        sentence(TERMS, "It is the one that costs least", () -> {
            // 20 and 9 and 24 (11 and 4 and 9), not 60 by the middle
            CaseCutter x = of("case 0 1 9;case 1000 2 1;case 2000 3 1;case 3000 4 9;");
            due("cost()", x.cost(), 53);
            int[] depths = {1, 3, 3, 2};
            for (int k = 0; k < 4; k++) {
                duePart(x, k, POINT, k, k, depths[k]);
            }
            // a row of all (3 times 20) against a POINT ahead of a row (20 and 9 and 3 times 11)
            x = of("range 0 1 1 9;range 2 3 2 1;range 4 5 3 1;range 6 7 4 9;");
            due("cost() of a row", x.cost(), 60);
            x = of("case 0 1 9;range 2 3 2 1;range 4 5 3 1;range 6 7 4 1;");
            due("cost() of a POINT and a row", x.cost(), 12 + 9 + 9);
        });
        sentence(TERMS, "of like ones one PART ahead of a COMPARISON", () -> {
            // 2 times 8 against 8 and 4 and 4
            due("of WEIGHTS 4, 4", of("case 0 3 4;case 1 3 4;").count(1), 1);
            due("of WEIGHTS 0, 0", of("case 0 3 0;case 1 4 0;").count(1), 1);
            due("of WEIGHTS 0, 1 and two AIMS", of("case 0 3 0;case 1 4 1;").count(1), 2);
        });
        sentence(TERMS, "an earlier COMPARISON ahead of a later one", () -> {
            CaseCutter x = of("case 0 1 1;case 1000 2 1;case 2000 3 1;");
            duePart(x, 0, POINT, 0, 0, 1);
            duePart(x, 1, POINT, 1, 1, 2);
            duePart(x, 2, POINT, 2, 2, 2);
            // a later one that costs less is chosen
            x = of("case 0 1 1;case 1000 2 1;case 2000 3 2;");
            duePart(x, 0, POINT, 0, 0, 2);
            duePart(x, 2, POINT, 2, 2, 1);
        });
        sentence(TERMS, "THE PLAN of the PROGRAM is that of all CASES (none: no PARTS)", () -> {
            CaseCutter x = of("rest 9;");
            due("count(1)", x.count(1), 0);
            due("count(2)", x.count(2), 0);
            refuses(x, "part(0, 0)", BAD, () -> x.part(0, 0));
            x.add(5, 5, 0, 0);
            due("count(1) of one", x.count(1), 1);
            x.cut(0);
            due("count(1) of none again", x.count(1), 0);
            refuses(x, "part(0, 0)", BAD, () -> x.part(0, 0));
        });
        sentence(TERMS, "PARTS are 0, 1, .. as they come", () -> {
            CaseCutter x = of("case 2000 3 9;case 0 1 1;case 1000 2 5;");
            for (int k = 0; k < 3; k++) {
                tells(x, "mark(" + k + ", 1)", x.mark(k, 1), 1000 * k);
            }
            refuses(x, "part(3, 0)", BAD, () -> x.part(3, 0));
            refuses(x, "part(-1, 0)", BAD, () -> x.part(-1, 0));
        });
        sentence(TERMS, "DEPTH of one: how many COMPARISONS are above it", () -> {
            duePart(of("case 0 1 9;"), 0, POINT, 0, 0, 0);
            CaseCutter x = withCases(12);
            for (int k = 0; k < 12; k++) {
                duePart(x, k, POINT, k, k, Math.min(k + 1, 11), 1, 1);
            }
            due("COMPARISONS", x.count(2), 11);
        });
        sentence(TERMS, "a selector goes from each COMPARISON behind, if it is not below LOW of the CASE behind it, else ahead", () -> {
            CaseCutter x = of("case 0 1 9;range 1000 2000 2 5;");
            dueRun(x, 999, NONE, 2);
            dueRun(x, 1000, 2, 3);
            dueRun(x, MIN, NONE, 2);
            dueRun(x, MAX, NONE, 3);
            x = of("range 0 100 1 1;case 2147483647 2 5;");
            dueRun(x, MAX - 1, NONE, 3);
            dueRun(x, MAX, 2, 2);
            x = of("range -2147483648 0 1 1;case 1 2 5;");
            dueRun(x, MIN, 1, 3);
            dueRun(x, 0, 1, 3);
            dueRun(x, 1, 2, 2);
            dueRun(x, 2, NONE, 2);
            // a PART of several CASES behind: LOW of its first one; ahead: up to LOW of the CASE behind
            x = of("case 0 1 9;range 1000 1001 2 5;case 1010 2 5;");
            duePart(x, 1, MASKED, 1, 2, 1, 2, 11);
            dueRun(x, 999, NONE, 2);
            dueRun(x, 1000, 2, 3);
            dueRun(x, 1005, NONE, 3);
            dueRun(x, 1009, NONE, 3);
            x = of("case 0 1 5;case 10 1 5;case 1000 2 9;");
            duePart(x, 0, MASKED, 0, 1, 1, 2, 11);
            dueRun(x, 0, 1, 3);
            dueRun(x, 10, 1, 3);
            dueRun(x, 999, NONE, 3);
            dueRun(x, 1000, 2, 2);
        });
        sentence(TERMS, "STEPS are those COMPARISONS and the PART's", () -> {
            CaseCutter x = withCases(12);
            for (int k = 0; k < 12; k++) {
                dueRun(x, 1000 * k, 0, Math.min(k + 1, 11) + 1);
            }
        });
        sentence(TERMS, "It comes to its CASE's AIM, or to none", () -> {
            CaseCutter rowed = of("range 0 6 1 0;range 30 37 2 0;case 63 3 0;");
            int[][] want = {{0, 1}, {6, 1}, {7, -9}, {29, -9}, {30, 2}, {37, 2}, {38, -9}, {62, -9}, {63, 3}, {64, -9},
                {-1, -9}, {-64, -9}, {MIN, -9}, {MAX, -9}};
            for (int[] w : want) {
                dueRun(rowed, w[0], w[1], 3);
            }
            // 32, 64 places on there would be the same bits, if masks went round
            CaseCutter masked = of("case 0 1 0;case 31 2 0;");
            int[][] due = {{0, 1}, {31, 2}, {1, -9}, {30, -9}, {32, -9}, {63, -9}, {64, -9}, {-1, -9}, {-32, -9},
                {MIN, -9}, {MAX, -9}};
            for (int[] w : due) {
                dueRun(masked, w[0], w[1], 3);
            }
            CaseCutter lone = of("range -5 5 0 1;");
            int[][] alone = {{-5, 0}, {5, 0}, {-6, -9}, {6, -9}, {MIN, -9}, {MAX, -9}};
            for (int[] w : alone) {
                dueRun(lone, w[0], w[1], 2);
            }
        });
    }

    public static void main(String[] args) {
        whatItIs();
        refusals();
        findings();
        rowsAndTexts();
        cases();
        hashes();
        words();
        faults();
        deeds();
        parts();
        steps();
        thePlan();
        end();
    }
}
