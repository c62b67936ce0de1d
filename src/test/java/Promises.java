/** One method a promise: ordinary inputs, the edges that the document names, wrong inputs. */
public final class Promises {
    private static final int BAD = -1, FULL = -2, FINDING = -3, STATE = -4, SPENT = -6, NONE = -9;
    private static final int NOTHING = 1, BEYOND = 2, UNLIKE = 3, NOUGHT = 4, SIZE = 5;
    private static final int MIN = Integer.MIN_VALUE, MAX = Integer.MAX_VALUE;

    private static int wrong = 0;
    private static int promise = 0;

    private static void due(String what, long got, long want) {
        if (got != want) {
            wrong++;
            System.out.println("promise " + promise + ": " + what + " answered " + got + ", due is " + want);
        }
    }

    /** A finding is answered, told by finding() and counted, and it changes nothing. */
    private static void finds(CaseCutter x, String what, int got, int f, int times) {
        due(what, got, FINDING);
        due(what + ", then finding()", x.finding(), f);
        due(what + ", then findings(" + f + ")", x.findings(f), times);
    }

    private static void type(CaseCutter x, int t, String words) {
        due("text", x.text(t, words.length()), words.length());
        for (int i = 0; i < words.length(); i++) {
            x.put(t, i, words.charAt(i));
        }
    }

    private static CaseCutter programmed(String words) {
        CaseCutter x = new CaseCutter();
        type(x, 0, words);
        due("fault of " + words, x.fault(0), NONE);
        x.program(0);
        return x;
    }

    private static String typed(CaseCutter x, int t) {
        int n = x.write(t);
        StringBuilder s = new StringBuilder();
        for (int i = 0; i < n; i++) {
            int b = x.put(t, i, 32) - 1000;
            x.put(t, i, b);
            s.append((char) b);
        }
        return s.toString();
    }

    private static void dueText(String what, String got, String want) {
        if (!got.equals(want)) {
            wrong++;
            System.out.println("promise " + promise + ": " + what + " was '" + got + "', due is '" + want + "'");
        }
    }

    private static void tells(CaseCutter x, String what, int got, int value) {
        due(what, got, 1);
        due(what + ", then asked()", x.asked(), value);
    }

    private static void p01newObject() {
        CaseCutter x = new CaseCutter();
        for (int what = 0; what < 12; what++) {
            due("count(" + what + ")", x.count(what), 0);
        }
        due("asked()", x.asked(), 0);
        due("mask0()", x.mask0(), 0);
        due("finding()", x.finding(), 0);
        for (int f = 1; f <= 5; f++) {
            due("findings(" + f + ")", x.findings(f), 0);
        }
        due("cost()", x.cost(), 0);
        due("write(0)", x.write(0), 0);
    }

    private static void p02row() {
        CaseCutter x = new CaseCutter();
        due("row(0, 40)", x.row(0, 40), 40);
        tells(x, "at(0, 39)", x.at(0, 39), 0);
        x.lay(0, 3, 7);
        due("row(0, 5) anew", x.row(0, 5), 5);
        tells(x, "at(0, 3)", x.at(0, 3), 0);
        finds(x, "at(0, 5)", x.at(0, 5), BEYOND, 1);
        due("row(5, 0)", x.row(5, 0), 0);
        due("row(0, 41)", x.row(0, 41), BAD);
        due("row(6, 1)", x.row(6, 1), BAD);
        due("row(-1, 1)", x.row(-1, 1), BAD);
        due("row(-1, -1)", x.row(-1, -1), BAD);
        finds(x, "row(0, -1)", x.row(0, -1), SIZE, 1);
        finds(x, "row(0, MIN)", x.row(0, MIN), SIZE, 2);
        due("count(9)", x.count(9), 2);
        tells(x, "at(0, 4)", x.at(0, 4), 0);
    }

    private static void p03lay() {
        CaseCutter x = new CaseCutter();
        finds(x, "lay(0, 0, 1)", x.lay(0, 0, 1), NOTHING, 1);
        x.row(0, 2);
        tells(x, "lay(0, 1, MIN)", x.lay(0, 1, MIN), 0);
        tells(x, "lay(0, 1, 5)", x.lay(0, 1, 5), MIN);
        tells(x, "at(0, 1)", x.at(0, 1), 5);
        finds(x, "lay(0, 2, 1)", x.lay(0, 2, 1), BEYOND, 1);
        finds(x, "lay(0, -1, 1)", x.lay(0, -1, 1), BEYOND, 2);
        due("lay(6, 0, 1)", x.lay(6, 0, 1), BAD);
        due("lay(-1, 0, 1)", x.lay(-1, 0, 1), BAD);
        due("asked()", x.asked(), 5);
    }

    private static void p04at() {
        CaseCutter x = new CaseCutter();
        finds(x, "at(5, 9)", x.at(5, 9), NOTHING, 1);
        x.row(5, 3);
        x.lay(5, 0, MAX);
        x.lay(5, 2, -8);
        tells(x, "at(5, 0)", x.at(5, 0), MAX);
        tells(x, "at(5, 2)", x.at(5, 2), -8);
        finds(x, "at(5, 3)", x.at(5, 3), BEYOND, 1);
        finds(x, "at(5, MIN)", x.at(5, MIN), BEYOND, 2);
        due("at(6, 0)", x.at(6, 0), BAD);
        due("at(-1, 0)", x.at(-1, 0), BAD);
        due("asked()", x.asked(), -8);
    }

    private static void p05tear() {
        CaseCutter x = new CaseCutter();
        finds(x, "tear(0)", x.tear(0), NOTHING, 1);
        x.row(0, 0);
        due("tear(0)", x.tear(0), 1);
        due("count(9)", x.count(9), 0);
        finds(x, "tear(0)", x.tear(0), NOTHING, 2);
        due("tear(6)", x.tear(6), BAD);
        due("tear(-1)", x.tear(-1), BAD);
    }

    private static void p06copy() {
        CaseCutter x = new CaseCutter();
        x.row(0, 5);
        x.row(1, 3);
        for (int i = 0; i < 5; i++) {
            x.lay(0, i, i + 1);
        }
        due("copy ahead within", x.copy(0, 0, 0, 1, 4), 1);
        dueRow(x, 0, 1, 1, 2, 3, 4);
        due("copy back within", x.copy(0, 2, 0, 0, 3), 1);
        dueRow(x, 0, 2, 3, 4, 3, 4);
        due("copy to another", x.copy(0, 2, 1, 1, 2), 1);
        dueRow(x, 1, 0, 4, 3);
        due("copy of none at the end", x.copy(0, 5, 1, 3, 0), 1);
        finds(x, "copy of none past the end", x.copy(0, 6, 1, 0, 0), BEYOND, 1);
        finds(x, "copy of too many", x.copy(0, 3, 1, 0, 3), BEYOND, 2);
        finds(x, "copy to too few", x.copy(0, 0, 1, 1, 3), BEYOND, 3);
        finds(x, "copy from below", x.copy(0, -1, 1, 0, 1), BEYOND, 4);
        finds(x, "copy to below", x.copy(0, 0, 1, -1, 1), BEYOND, 5);
        finds(x, "copy of MAX", x.copy(0, 1, 1, 1, MAX), BEYOND, 6);
        finds(x, "copy from MAX", x.copy(0, MAX, 1, 0, 1), BEYOND, 7);
        finds(x, "copy from missing", x.copy(5, 0, 1, 0, 9), NOTHING, 1);
        finds(x, "copy to missing", x.copy(0, 9, 5, 0, 1), NOTHING, 2);
        finds(x, "copy of -1", x.copy(0, 0, 1, 0, -1), SIZE, 1);
        finds(x, "copy of -1 from missing", x.copy(5, 0, 1, 0, -1), SIZE, 2);
        due("copy from 6", x.copy(6, 0, 1, 0, -1), BAD);
        due("copy to 6", x.copy(0, 0, 6, 0, 1), BAD);
        due("copy from -1", x.copy(-1, 0, 1, 0, 1), BAD);
        due("copy to -1", x.copy(0, 0, -1, 0, 1), BAD);
        dueRow(x, 0, 2, 3, 4, 3, 4);
        dueRow(x, 1, 0, 4, 3);
    }

    private static void dueRow(CaseCutter x, int r, int... want) {
        for (int i = 0; i < want.length; i++) {
            x.at(r, i);
            due("row " + r + " at " + i, x.asked(), want[i]);
        }
    }

    private static void p07mean() {
        CaseCutter x = new CaseCutter();
        finds(x, "mean(0)", x.mean(0), NOTHING, 1);
        x.row(0, 0);
        finds(x, "mean(0)", x.mean(0), NOUGHT, 1);
        x.row(0, 2);
        x.lay(0, 0, -3);
        tells(x, "mean of -3, 0", x.mean(0), -1);
        x.lay(0, 0, 3);
        tells(x, "mean of 3, 0", x.mean(0), 1);
        x.lay(0, 0, MAX);
        x.lay(0, 1, MAX);
        tells(x, "mean of MAX, MAX", x.mean(0), MAX);
        x.lay(0, 0, MIN);
        x.lay(0, 1, MIN);
        tells(x, "mean of MIN, MIN", x.mean(0), MIN);
        due("mean(6)", x.mean(6), BAD);
        due("mean(-1)", x.mean(-1), BAD);
        due("asked()", x.asked(), MIN);
    }

    private static void p08text() {
        CaseCutter x = new CaseCutter();
        due("text(0, 120)", x.text(0, 120), 120);
        due("put(0, 119, 65)", x.put(0, 119, 65), 1032);
        due("text(0, 120) anew", x.text(0, 120), 120);
        due("put(0, 119, 65)", x.put(0, 119, 65), 1032);
        due("text(3, 0)", x.text(3, 0), 0);
        due("text(0, 121)", x.text(0, 121), BAD);
        due("text(4, 1)", x.text(4, 1), BAD);
        due("text(-1, -1)", x.text(-1, -1), BAD);
        finds(x, "text(1, -1)", x.text(1, -1), SIZE, 1);
        due("count(10)", x.count(10), 2);
    }

    private static void p09put() {
        CaseCutter x = new CaseCutter();
        finds(x, "put(0, 0, 1)", x.put(0, 0, 1), NOTHING, 1);
        x.text(0, 2);
        due("put 200", x.put(0, 0, 200), 1032);
        due("put 256 + 97", x.put(0, 0, 256 + 97), 1000 + (byte) 200);
        due("put -129", x.put(0, 0, -129), 1097);
        due("put 0", x.put(0, 0, 0), 1127);
        due("put 1", x.put(0, 0, 1), 1000);
        finds(x, "put(0, 2, 1)", x.put(0, 2, 1), BEYOND, 1);
        finds(x, "put(0, -1, 1)", x.put(0, -1, 1), BEYOND, 2);
        due("put(4, 0, 1)", x.put(4, 0, 1), BAD);
        due("put(-1, 0, 1)", x.put(-1, 0, 1), BAD);
    }

    private static void dueFault(String words, int want) {
        CaseCutter x = new CaseCutter();
        type(x, 2, words);
        due("fault of '" + words + "'", x.fault(2), want);
        due("program of '" + words + "'", Math.min(x.program(2), 0), want == NONE ? 0 : STATE);
    }

    private static void p10fault() {
        CaseCutter x = new CaseCutter();
        finds(x, "fault(0)", x.fault(0), NOTHING, 1);
        due("fault(4)", x.fault(4), BAD);
        due("fault(-1)", x.fault(-1), BAD);
        dueFault("", NONE);
        dueFault("    ", NONE);
        dueFault("  case  5   1 3 ;  rest 2 ; ", NONE);
        dueFault("case5 1 3;range-5-2 7 9;name ab0 0;rest9;", NONE);
        dueFault("case 007 -0 00009;", NONE);
        dueFault("case -2147483648 0 0;case 2147483647 0 0;", NONE);
        dueFault("range -2147483648 2147483647 7 9;", NONE);
        dueFault("name case 1 2;name rest 1 2;name zzzzzz 1 2;", NONE);
        dueFault("xase 1 2 3;", 0);
        dueFault("cas 1 2 3;", 0);
        dueFault("cases 1 2 3;", 0);
        dueFault("  5 1 2;", 2);
        dueFault(";", 0);
        dueFault("rest 1;;", 7);
        dueFault("case 1 2 3;Case 4 5 6;", 11);
        dueFault("case a 1 2;", 5);
        dueFault("case ; 1 2;", 5);
        dueFault("case 1 ; 2;", 7);
        dueFault("case 1 8 2;", 7);
        dueFault("case 1 -1 2;", 7);
        dueFault("case 1 7 10;", 9);
        dueFault("case 1 7 -1;", 9);
        dueFault("case 1 7 9 ", 11);
        dueFault("case 1 7 9", 10);
        dueFault("case 1 7 9 9;", 11);
        dueFault("case 1 7 9case", 10);
        dueFault("case", 4);
        dueFault("case 2147483648 2 3;", 5);
        dueFault("case -2147483649 2 3;", 5);
        dueFault("case -21474836480 2 3;", 5);
        dueFault("case 18446744073709551617 2 3;", 5);
        dueFault("case 00000000000000000000000000001 2 3;", NONE);
        dueFault("case - 2 3;", 5);
        dueFault("case --2 3 4;", 5);
        dueFault("case 1 -a 3;", 7);
        dueFault("case 1+ 2 3;", 6);
        dueFault("case 1\t2 3;", 6);
        dueFault("case 1 2 3;case 01 2 3;", 16);
        dueFault("case 1 2 3;case 1", 16);
        dueFault("range 3 2 1 1;", 8);
        dueFault("range 3 3 1 1;", NONE);
        dueFault("case 5 1 1;range 4 6 1 1;", 19);
        dueFault("case 5 1 1;range 5 6 1 1;", 17);
        dueFault("case 5 1 1;range 5 2 1 1;", 17);
        dueFault("case 5 1 1;range 4 5 1 1;", 19);
        dueFault("case 5 1 1;range 6 8 1 1;", NONE);
        dueFault("range 1 9 1 1;case 5 1 1;", 19);
        dueFault("case 97 1 1;name a 1 1;", 17);
        dueFault("name abcdefg 1 1;", 5);
        dueFault("name 5 1 1;", 5);
        dueFault("name a b 1;", 7);
        dueFault("rest 0;rest 0;", 7);
        dueFault("rest 10;", 5);
        dueFault("rest -1;", 5);
        dueFault("rest x;", 5);
        dueFault("rest 1 2;", 7);
        String twelve = "name a0 0;name b0 0;name c0 0;name d0 0;name e0 0;name f0 0;"
                + "name g0 0;name h0 0;name i0 0;name j0 0;name k0 0;name l0 0;";
        dueFault(twelve, NONE);
        CaseCutter y = new CaseCutter();
        y.text(0, 2);
        y.put(0, 1, 200);
        due("fault of a byte below 0", y.fault(0), 1);
    }

    private static void p11program() {
        CaseCutter x = new CaseCutter();
        finds(x, "program(0)", x.program(0), NOTHING, 1);
        due("program(4)", x.program(4), BAD);
        type(x, 0, "range 7 9 2 4;case -11 1 5;rest 2;");
        due("program(0)", x.program(0), 2);
        tells(x, "told(0, 0)", x.told(0, 0), -11);
        tells(x, "told(1, 1)", x.told(1, 1), 9);
        due("count(7)", x.count(7), 2);
        x.add(0, 0, 0, 0);
        x.keep(0);
        x.keep(2);
        type(x, 1, "case 1 2 3;x");
        long before = x.digest();
        due("program(1), faulty", x.program(1), STATE);
        due("digest() behind it", x.digest(), before);
        due("count(11)", x.count(11), 2);
        type(x, 1, "name ab 1 2;");
        due("program(1)", x.program(1), 1);
        tells(x, "told(0, 0)", x.told(0, 0), 3105);
        due("count(7)", x.count(7), 0);
        due("count(8)", x.count(8), 0);
        due("count(11)", x.count(11), 0);
        finds(x, "on(0)", x.on(0), NOTHING, 2);
        due("cost()", x.cost(), 2);
    }

    private static void p12write() {
        CaseCutter x = programmed(" rest 3 ; range 7 009 2 4;name b 0 0; case -11 1 1;");
        dueText("write", typed(x, 3), "case -11 1 1;range 7 9 2 4;case 98 0 0;rest 3;");
        due("count(10)", x.count(10), 2);
        x = programmed("range -2147483648 2147483647 7 9;rest 0;");
        dueText("write", typed(x, 0), "range -2147483648 2147483647 7 9;");
        due("write(4)", x.write(4), BAD);
        due("write(-1)", x.write(-1), BAD);
        x = new CaseCutter();
        due("write(1) of none", x.write(1), 0);
        // ten of "case d 0 0;" are 110 bytes, "rest 1;" would be 7 more, another case 11
        x = programmed("case0 0 0;case1 0 0;case2 0 0;case3 0 0;case4 0 0;"
                + "case5 0 0;case6 0 0;case7 0 0;case8 0 0;case9 0 0;rest 1;");
        due("write(1)", x.write(1), 117);
        x.cut(0);
        x.add(-100, -100, 0, 0);
        due("write(1) of 120", x.write(1), 120);
        x.cut(0);
        x.add(-1000, -1000, 0, 0);
        long before = x.digest();
        due("write(1) of 121", x.write(1), SPENT);
        due("write(2) of 121", x.write(2), SPENT);
        due("digest()", x.digest(), before);
        due("write(4) of 121", x.write(4), BAD);
    }

    private static void p13hash() {
        CaseCutter x = new CaseCutter();
        finds(x, "hash(0)", x.hash(0), NOTHING, 1);
        due("hash(6)", x.hash(6), BAD);
        due("hash(-1)", x.hash(-1), BAD);
        x.row(0, 0);
        finds(x, "hash of none", x.hash(0), SIZE, 1);
        x.row(0, 7);
        x.lay(0, 0, 26);
        finds(x, "hash of seven", x.hash(0), SIZE, 2);
        x.row(0, 6);
        int[] letters = {2, 20, 19, 19, 4, 17};
        for (int i = 0; i < 6; i++) {
            x.lay(0, i, letters[i]);
        }
        tells(x, "hash of cutter", x.hash(0), "cutter".hashCode());
        x.lay(0, 5, 26);
        finds(x, "hash with 26", x.hash(0), UNLIKE, 1);
        x.lay(0, 5, -1);
        finds(x, "hash with -1", x.hash(0), UNLIKE, 2);
        x.row(1, 6);
        for (int i = 0; i < 6; i++) {
            x.lay(1, i, 25);
        }
        tells(x, "hash of zzzzzz", x.hash(1), "zzzzzz".hashCode());
        x.row(2, 1);
        tells(x, "hash of a", x.hash(2), 97);
    }

    private static void p14told() {
        CaseCutter x = programmed("range 7 9 2 4;case -11 1 5;");
        int[][] want = {{-11, -11, 1, 5}, {7, 9, 2, 4}};
        for (int i = 0; i < 2; i++) {
            for (int what = 0; what < 4; what++) {
                tells(x, "told(" + i + ", " + what + ")", x.told(i, what), want[i][what]);
            }
        }
        due("told(2, 0)", x.told(2, 0), BAD);
        due("told(-1, 0)", x.told(-1, 0), BAD);
        due("told(0, 4)", x.told(0, 4), BAD);
        due("told(0, -1)", x.told(0, -1), BAD);
        due("asked()", x.asked(), 4);
    }

    private static void p15add() {
        CaseCutter x = new CaseCutter();
        due("add 10 to 20", x.add(10, 20, 7, 9), 0);
        due("add 21", x.add(21, 21, 0, 0), 1);
        due("add MIN to 9", x.add(MIN, 9, 1, 1), 0);
        due("add 9 to 10", x.add(9, 10, 1, 1), STATE);
        due("add 15", x.add(15, 15, 1, 1), STATE);
        due("add 0 to MAX", x.add(0, MAX, 1, 1), STATE);
        due("add 21 to 22", x.add(21, 22, 1, 1), STATE);
        due("add 23 to 22", x.add(23, 22, 1, 1), BAD);
        due("add 21 of aim 8", x.add(21, 22, 8, 1), BAD);
        due("add of aim -1", x.add(22, 22, -1, 1), BAD);
        due("add of weight 10", x.add(22, 22, 0, 10), BAD);
        due("add of weight -1", x.add(22, 22, 0, -1), BAD);
        due("count(8)", x.count(8), 3);
        for (int i = 3; i < 12; i++) {
            due("add", x.add(100 + i, 100 + i, 1, 1), i);
        }
        due("a 13th", x.add(50, 50, 1, 1), FULL);
        due("a 13th that is another's", x.add(10, 10, 1, 1), STATE);
        due("a 13th of aim 8", x.add(50, 50, 8, 1), BAD);
        for (int d = 12; d < 40; d += 2) {
            x.cut(11);
            x.add(200, 200, 0, 0);
        }
        due("count(8)", x.count(8), 40);
        x.keep(0);
        due("undo(39)", x.undo(39), 1);
        due("the 40th", x.add(200, 200, 0, 0), 11);
        due("undo(39)", x.undo(39), 1);
        due("aim", x.aim(0, 0), 1);
        due("a 41st", x.add(300, 300, 0, 0), FULL);
    }

    private static void p16cut() {
        CaseCutter x = programmed("case 1 1 1;case 2 2 2;case 3 3 3;");
        due("cut(3)", x.cut(3), BAD);
        due("cut(-1)", x.cut(-1), BAD);
        due("cut(1)", x.cut(1), 2);
        tells(x, "told(1, 0)", x.told(1, 0), 3);
        due("count(3)", x.count(3), 4);
        due("cut(1)", x.cut(1), 1);
        due("cut(0)", x.cut(0), 0);
        due("cut(0)", x.cut(0), BAD);
        due("count(1)", x.count(1), 0);
        due("count(8)", x.count(8), 3);
        fillDeeds(x);
        due("cut(0), 40 deeds", x.cut(0), FULL);
        due("cut(1), 40 deeds", x.cut(1), BAD);
    }

    /** Leaves one CASE, 0, of WEIGHT 0, and 40 DEEDS. */
    private static void fillDeeds(CaseCutter x) {
        x.add(0, 0, 0, 0);
        while (x.count(8) < 40) {
            x.aim(0, x.reach(0) == 0 ? 1 : 0);
        }
    }

    private static void p17aim() {
        CaseCutter x = programmed("range 1 2 1 1;case 4 2 2;");
        due("aim(1, 7)", x.aim(1, 7), 2);
        tells(x, "told(1, 2)", x.told(1, 2), 7);
        due("aim(1, 7)", x.aim(1, 7), STATE);
        due("aim(1, 8)", x.aim(1, 8), BAD);
        due("aim(1, -1)", x.aim(1, -1), BAD);
        due("aim(2, 0)", x.aim(2, 0), BAD);
        due("aim(-1, 0)", x.aim(-1, 0), BAD);
        due("count(8)", x.count(8), 1);
        // two aims that become one: two masks and a subtraction, then one mask less
        x = programmed("range 1 2 1 3;range 4 5 2 3;");
        due("cost()", x.cost(), 18);
        due("aim(1, 1)", x.aim(1, 1), 2);
        due("cost()", x.cost(), 12);
        x = new CaseCutter();
        fillDeeds(x);
        due("aim, 40 deeds", x.aim(0, x.reach(0) == 1 ? 2 : 1), FULL);
        due("aim that it is, 40 deeds", x.aim(0, x.reach(0)), STATE);
        due("aim 8, 40 deeds", x.aim(0, 8), BAD);
    }

    private static void p18weigh() {
        CaseCutter x = programmed("range 1 2 1 1;case 4 2 2;");
        due("weigh(0, 9)", x.weigh(0, 9), 1);
        tells(x, "told(0, 3)", x.told(0, 3), 9);
        due("count(3)", x.count(3), 11);
        due("weigh(0, 9)", x.weigh(0, 9), STATE);
        due("weigh(0, 10)", x.weigh(0, 10), BAD);
        due("weigh(0, -1)", x.weigh(0, -1), BAD);
        due("weigh(2, 0)", x.weigh(2, 0), BAD);
        due("weigh(-1, 0)", x.weigh(-1, 0), BAD);
        due("count(8)", x.count(8), 1);
        x = new CaseCutter();
        fillDeeds(x);
        due("weigh, 40 deeds", x.weigh(0, 9), FULL);
        due("weigh as it is, 40 deeds", x.weigh(0, 0), STATE);
        due("weigh 10, 40 deeds", x.weigh(0, 10), BAD);
    }

    private static void p19undo() {
        CaseCutter x = programmed("range 1 2 1 1;case 4 2 2;case 9 3 3;rest 5;");
        due("undo(0)", x.undo(0), 0);
        due("undo(1)", x.undo(1), BAD);
        due("undo(-1)", x.undo(-1), BAD);
        long[] digests = new long[9];
        digests[0] = x.digest();
        x.cut(1);
        digests[1] = x.digest();
        x.add(-5, -4, 6, 8);
        digests[2] = x.digest();
        x.aim(2, 7);
        digests[3] = x.digest();
        x.weigh(1, 0);
        digests[4] = x.digest();
        x.cut(0);
        digests[5] = x.digest();
        x.lots(2, 7);
        digests[7] = x.digest();
        x.add(100, 200, 0, 1);
        due("undo(7)", x.undo(7), 1);
        due("digest", x.digest(), digests[7]);
        due("undo(8)", x.undo(8), BAD);
        due("undo(5)", x.undo(5), 2);
        due("digest", x.digest(), digests[5]);
        for (int n = 4; n >= 0; n--) {
            due("undo(" + n + ")", x.undo(n), 1);
            due("digest", x.digest(), digests[n]);
        }
        due("count(7)", x.count(7), 5);
        x.weigh(0, 9);
        due("cost() of weights 9, 2, 3", x.cost(), 2 * 9 + 2 + 3 + 14 + 5);
        due("undo(0)", x.undo(0), 1);
        due("cost() of weights 1, 2, 3", x.cost(), 2 * 1 + 2 + 3 + 6 + 3);
        x.lots(20, 99);
        x.lots(20, 4);
        due("undo(0)", x.undo(0), 40);
        due("digest", x.digest(), digests[0]);
    }

    private static void p20keep() {
        CaseCutter x = programmed("case 4 2 2;rest 5;");
        due("keep(3)", x.keep(3), BAD);
        due("keep(-1)", x.keep(-1), BAD);
        due("keep(0)", x.keep(0), 0);
        x.weigh(0, 9);
        x.aim(0, 0);
        due("keep(2)", x.keep(2), 2);
        due("count(11)", x.count(11), 2);
        due("keep(0)", x.keep(0), 2);
        due("count(11)", x.count(11), 2);
        x.cut(0);
        due("on(0)", x.on(0), 2);
        due("count(3)", x.count(3), 14);
        due("undo(1) of what was kept", x.undo(1), 1);
        due("reach(4)", x.reach(4), 2);
        due("on(2) again", x.on(2), 2);
        due("reach(4)", x.reach(4), 0);
    }

    private static void p21on() {
        CaseCutter x = programmed("case 4 2 2;rest 5;");
        finds(x, "on(1)", x.on(1), NOTHING, 1);
        due("on(3)", x.on(3), BAD);
        due("on(-1)", x.on(-1), BAD);
        x.add(6, 7, 1, 1);
        x.keep(1);
        long kept = x.digest();
        x.lots(20, 3);
        due("on(1)", x.on(1), 1);
        due("digest", x.digest(), kept);
        due("count(7)", x.count(7), 5);
        due("on(1) again", x.on(1), 1);
        due("undo(0)", x.undo(0), 1);
        due("count(0)", x.count(0), 1);
        due("cost()", x.cost(), 2);
        due("on(1) again", x.on(1), 1);
        due("cost()", x.cost(), 3 + 2 + 2);
        due("count(0)", x.count(0), 2);
    }

    private static void p22reach() {
        CaseCutter x = programmed("range -5 5 3 1;case 7 4 1;range 2147483646 2147483647 6 1;");
        due("reach(7)", x.reach(7), 4);
        due("asked()", x.asked(), 1);
        due("reach(MAX)", x.reach(MAX), 6);
        due("asked()", x.asked(), 2);
        due("reach(6)", x.reach(6), NONE);
        due("reach(MIN)", x.reach(MIN), NONE);
        due("asked()", x.asked(), 2);
        due("reach(-5)", x.reach(-5), 3);
        due("asked()", x.asked(), 0);
        due("reach(5)", x.reach(5), 3);
        due("reach(-6)", x.reach(-6), NONE);
    }

    private static void p23run() {
        CaseCutter x = new CaseCutter();
        x.row(0, 1);
        x.lay(0, 0, 5);
        x.at(0, 0);
        due("run of no parts", x.run(5), NONE);
        due("asked()", x.asked(), 0);
        // far apart: point 0 (1 step), span 1000 (2), point 5000 (1); the first is the heaviest
        x = programmed("case 0 3 9;range 1000 2000 4 1;case 5000 5 1;");
        due("run(0)", x.run(0), 3);
        due("asked()", x.asked(), 2);
        due("run(999)", x.run(999), NONE);
        due("asked()", x.asked(), 2);
        due("run(1000)", x.run(1000), 4);
        due("asked()", x.asked(), 4);
        due("run(2001)", x.run(2001), NONE);
        due("asked()", x.asked(), 4);
        due("run(5000)", x.run(5000), 5);
        due("asked()", x.asked(), 3);
        due("run(MAX)", x.run(MAX), NONE);
        due("asked()", x.asked(), 3);
        due("run(MIN)", x.run(MIN), NONE);
        due("asked()", x.asked(), 2);
    }

    private static void p24cost() {
        due("cost() of none", new CaseCutter().cost(), 0);
        due("of a point", programmed("case 0 3 9;rest 7;").cost(), 9);
        due("of a span", programmed("range 0 1 3 9;").cost(), 18);
        // one part of one aim (2 steps) is as dear as a comparison between two points: the part
        CaseCutter x = programmed("case 0 3 4;case 1 3 4;");
        due("of two points", x.cost(), 16);
        due("parts", x.count(1), 1);
        // two aims: a comparison (8) and two points (8) against 3 steps (24)
        x = programmed("case 0 3 4;case 1 4 4;");
        due("of two aims", x.cost(), 16);
        due("parts", x.count(1), 2);
        due("far", programmed("case 0 3 9;range 1000 2000 4 1;case 5000 5 1;").cost(), 11 + 9 + 2 + 2 + 1);
        due("of weights 0", programmed("case 0 3 0;range 1000 2000 4 0;").cost(), 0);
    }

    private static void duePart(CaseCutter x, int k, int... want) {
        for (int what = 0; what < 6; what++) {
            tells(x, "part(" + k + ", " + what + ")", x.part(k, what), want[what]);
        }
    }

    private static void p25part() {
        CaseCutter x = programmed("range -2147483648 -1 1 5;case 0 2 9;range 10 11 1 9;range 40 41 1 9;range 50 2147483647 2 3;");
        // 10 .. 41 is 32 numbers of one aim: masked
        duePart(x, 0, 1, 0, 0, 2, 2, -1);
        duePart(x, 1, 4, 1, 1, 2, 1, 1);
        duePart(x, 2, 3, 2, 3, 2, 2, 32);
        duePart(x, 3, 1, 4, 4, 2, 2, 2147483598);
        due("part(4, 0)", x.part(4, 0), BAD);
        due("part(-1, 0)", x.part(-1, 0), BAD);
        due("part(0, 6)", x.part(0, 6), BAD);
        due("part(0, -1)", x.part(0, -1), BAD);
        due("asked()", x.asked(), 2147483598);
        // 33 numbers are too many for a mask; 4 of 33 are too few for a row
        x = programmed("range 10 11 1 9;range 41 42 1 9;");
        due("parts", x.count(1), 2);
        // weights 0: of like ones one part is first
        x = programmed("case 0 1 0;case 1 2 0;case 2 3 0;");
        duePart(x, 0, 2, 0, 2, 0, 3, 3);
        // 64 numbers of which 16 are cases' can be a row; of three aims no mask
        x = programmed("range 0 6 1 0;range 30 37 2 0;case 63 3 0;");
        duePart(x, 0, 2, 0, 2, 0, 3, 64);
        x = programmed("range 0 5 1 0;range 30 37 2 0;case 63 3 0;");
        due("15 of 64: no row of all", x.count(1), 2);
        x = programmed("range 0 19 1 0;range 30 37 2 0;case 64 3 0;");
        due("65 numbers: no row of all", x.count(1), 2);
        // an earlier comparison ahead of a later one
        x = programmed("case 0 1 0;case 1000 2 0;case 2000 3 0;");
        duePart(x, 0, 4, 0, 0, 1, 1, 1);
        duePart(x, 1, 4, 1, 1, 2, 1, 1);
        duePart(x, 2, 4, 2, 2, 2, 1, 1);
        // of like steps rowed is ahead of masked
        x = programmed("range 0 1 1 1;range 2 3 2 1;");
        duePart(x, 0, 2, 0, 1, 0, 3, 4);
        x = programmed("case 0 1 0;case 31 2 0;");
        duePart(x, 0, 3, 0, 1, 0, 3, 32);
        x = programmed("range 0 2147483647 1 0;");
        duePart(x, 0, 1, 0, 0, 0, 2, -1);
        x = programmed("range 1 2147483647 1 0;");
        duePart(x, 0, 1, 0, 0, 0, 2, 2147483647);
    }

    private static void p26mark() {
        CaseCutter x = programmed("range -2147483648 -1 1 5;case 0 2 9;range 10 11 1 9;range 40 41 1 9;");
        tells(x, "lone", x.mark(0, 1), MIN);
        finds(x, "lone as point", x.mark(0, 4), UNLIKE, 1);
        finds(x, "lone as rowed", x.mark(0, 2), UNLIKE, 2);
        tells(x, "point as lone", x.mark(1, 1), 0);
        tells(x, "point", x.mark(1, 4), 2);
        finds(x, "point as masked", x.mark(1, 3), UNLIKE, 3);
        tells(x, "masked", x.mark(2, 3), 1);
        finds(x, "masked as lone", x.mark(2, 1), UNLIKE, 4);
        due("mark(3, 1)", x.mark(3, 1), BAD);
        due("mark(-1, 1)", x.mark(-1, 1), BAD);
        due("mark(0, 0)", x.mark(0, 0), BAD);
        due("mark(0, 5)", x.mark(0, 5), BAD);
        due("mark(0, -1)", x.mark(0, -1), BAD);
        x = programmed("range 0 6 1 0;range 30 37 2 0;case 63 3 0;");
        tells(x, "rowed", x.mark(0, 2), 48);
        x = programmed("case 0 1 0;case 31 2 0;");
        tells(x, "masked of two", x.mark(0, 3), 2);
        finds(x, "masked as rowed", x.mark(0, 2), UNLIKE, 1);
    }

    private static void p27jump() {
        CaseCutter x = programmed("range -3 3 1 0;range 27 34 2 0;case 60 7 0;");
        int[][] want = {{0, 1}, {6, 1}, {7, 8}, {29, 8}, {30, 2}, {37, 2}, {38, 8}, {62, 8}, {63, 7}};
        for (int[] w : want) {
            tells(x, "jump(0, " + w[0] + ")", x.jump(0, w[0]), w[1]);
        }
        finds(x, "jump(0, 64)", x.jump(0, 64), BEYOND, 1);
        finds(x, "jump(0, -1)", x.jump(0, -1), BEYOND, 2);
        due("jump(1, 0)", x.jump(1, 0), BAD);
        due("jump(-1, 99)", x.jump(-1, 99), BAD);
        due("asked()", x.asked(), 7);
        x = programmed("case 0 1 1;");
        finds(x, "jump of a point", x.jump(0, 99), UNLIKE, 1);
        x = programmed("case 2147483647 1 0;range 2147483640 2147483641 2 0;case 2147483643 3 0;");
        tells(x, "jump to MAX", x.jump(0, 7), 1);
        tells(x, "jump to the first", x.jump(0, 0), 2);
    }

    private static void p28mask() {
        CaseCutter x = programmed("case 2147483616 1 0;range 2147483618 2147483619 2 0;case 2147483647 1 0;");
        due("mask(0, 1)", x.mask(0, 1), 1);
        due("mask0()", x.mask0(), 0x80000001L);
        due("mask(0, 2)", x.mask(0, 2), 1);
        due("mask0()", x.mask0(), 12);
        due("mask(1, 1)", x.mask(1, 1), BAD);
        due("mask(-1, 1)", x.mask(-1, 1), BAD);
        due("mask(0, 8)", x.mask(0, 8), BAD);
        due("mask(0, -1)", x.mask(0, -1), BAD);
        due("mask0()", x.mask0(), 12);
        due("mask(0, 0)", x.mask(0, 0), 1);
        due("mask0()", x.mask0(), 0);
        due("mask(0, 1)", x.mask(0, 1), 1);
        x.cut(0);
        x.cut(1);
        finds(x, "mask of a lone one", x.mask(0, 2), UNLIKE, 1);
        due("mask0()", x.mask0(), 0x80000001L);
        due("asked() is not of masks", x.asked(), 0);
    }

    private static void p29only() {
        CaseCutter x = programmed("case 5 1 3;range 7 9 2 4; case 11 1 1;rest 2;");
        due("only(1)", x.only(1), 25);
        due("only(2)", x.only(2), 24);
        due("only(3)", x.only(3), 24);
        due("only(0)", x.only(0), BAD);
        due("only(4)", x.only(4), BAD);
        due("only(-1)", x.only(-1), BAD);
        // one aim, 32 numbers of which 4 are cases': a mask (2 steps), but no row
        x = programmed("range 0 1 1 9;range 30 31 1 9;");
        due("only(1)", x.only(1), 54);
        due("only(2)", x.only(2), 54);
        due("only(3)", x.only(3), 36);
        due("cost()", x.cost(), 36);
        // three aims side by side: a row, but no mask of all
        x = programmed("range 0 1 1 9;range 2 3 2 9;range 4 5 3 9;");
        due("only(1)", x.only(1), 27 + 18 + 54);
        due("only(2)", x.only(2), 81);
        // a comparison (27), a span (18), a mask of two (54): no less than spans alone
        due("only(3)", x.only(3), 99);
        due("cost()", x.cost(), 81);
        due("cost of none", new CaseCutter().only(3), 0);
    }

    private static void p30chain() {
        due("chain of none", new CaseCutter().chain(), 0);
        due("chain of none with rest", programmed("rest 9;").chain(), 0);
        due("chain", programmed("case 5 1 3;range 7 9 2 4; case 11 1 1;rest 2;").chain(), 27);
        due("chain", programmed("range 5 6 1 9;rest 9;").chain(), 36);
        due("chain", programmed("case 1 1 1;case 2 1 2;case 3 1 3;").chain(), 6 + 5 + 3);
    }

    private static void p31worst() {
        CaseCutter x = new CaseCutter();
        due("worst() of none", x.worst(), STATE);
        due("finding()", x.finding(), 0);
        x = programmed("case 0 3 9;range 1000 2000 4 1;case 5000 5 1;");
        due("worst()", x.worst(), 1);
        due("asked()", x.asked(), 4);
        x = programmed("range 0 1 1 1;range 1000 1001 1 1;");
        due("worst(), the first of like ones", x.worst(), 0);
        due("asked()", x.asked(), 3);
        x = programmed("case 0 1 9;case 1000 2 0;case 1001 2 0;case 1002 3 0;");
        due("worst() in a part of many", x.worst(), 1);
        due("asked()", x.asked(), 4);
    }

    private static void p32swing() {
        CaseCutter x = programmed("case 5 1 3;range 7 9 2 4; case 11 1 1;rest 2;");
        due("swing(0)", x.swing(0), 5);
        due("asked()", x.asked(), 3);
        due("swing(1)", x.swing(1), 0);
        due("swing(2)", x.swing(2), 5);
        due("swing(3)", x.swing(3), BAD);
        due("swing(-1)", x.swing(-1), BAD);
        due("digest is as before", x.count(3), 10);
        x = programmed("case 0 3 9;range 1000 2000 4 1;case 5000 5 1;");
        x.reach(5000);
        due("swing(0) of lone ones", x.swing(0), NONE);
        due("asked()", x.asked(), 2);
        // at weights 0, 0 one part of both; from 1 on a comparison and points
        x = programmed("case 0 3 0;case 1 4 0;");
        due("swing(1)", x.swing(1), 1);
        due("asked()", x.asked(), 2);
        x = programmed("case 0 3 0;case 1 4 5;");
        due("swing(1) to 0", x.swing(1), 0);
        due("asked()", x.asked(), 1);
        due("swing(0)", x.swing(0), NONE);
    }

    private static void p33covered() {
        CaseCutter x = programmed("range -2147483648 -1 1 5;case 0 2 9;range 10 11 1 9;case 2147483647 0 0;");
        due("all", x.covered(MIN, MAX), 2147483648L + 1 + 2 + 1);
        due("covered(-1, 10)", x.covered(-1, 10), 3);
        due("covered(1, 9)", x.covered(1, 9), 0);
        due("covered(11, 11)", x.covered(11, 11), 1);
        due("covered(MAX, MAX)", x.covered(MAX, MAX), 1);
        due("covered(MIN, MIN)", x.covered(MIN, MIN), 1);
        due("covered(1, 0)", x.covered(1, 0), BAD);
        due("covered(MAX, MIN)", x.covered(MAX, MIN), BAD);
        due("of none", new CaseCutter().covered(MIN, MAX), 0);
    }

    private static void p34lots() {
        CaseCutter x = new CaseCutter();
        due("lots(0, 1)", x.lots(0, 1), BAD);
        due("lots(21, 1)", x.lots(21, 1), BAD);
        due("lots(1, 0)", x.lots(1, 0), BAD);
        due("lots(1, MAX)", x.lots(1, MAX), BAD);
        due("lots(1, MIN)", x.lots(1, MIN), BAD);
        // 2147483647 less 48271 is 4 times 536858844: a cut where there is nothing
        due("lots(1, MAX - 1)", x.lots(1, MAX - 1), 0);
        due("count(8)", x.count(8), 1);
        x = new CaseCutter();
        // 48271 from 1: modulo 4 it is 3; 12067 modulo 48 is 19; 188 modulo 3 is 2;
        // 3016 modulo 8 is 0; 377 modulo 10 is 7
        due("lots(1, 1)", x.lots(1, 1), 1);
        tells(x, "LOW", x.told(0, 0), -5);
        tells(x, "HIGH", x.told(0, 1), -3);
        tells(x, "AIM", x.told(0, 2), 0);
        tells(x, "WEIGHT", x.told(0, 3), 7);
        due("lots(1, 1), which can't be", x.lots(1, 1), 1);
        due("count(8)", x.count(8), 2);
        // 4 times 48271 is cut: the one case goes
        due("lots(1, 4)", x.lots(1, 4), 0);
        due("lots(1, 4), nothing", x.lots(1, 4), 0);
        due("count(8)", x.count(8), 4);
        due("undo(2)", x.undo(2), 2);
        due("count(0)", x.count(0), 1);
        x.undo(0);
        due("lots(20, 5)", Math.min(x.lots(20, 5), 0), 0);
        due("lots(19, 5)", Math.min(x.lots(19, 5), 0), 0);
        due("lots(2, 5)", x.lots(2, 5), FULL);
        due("lots(2, 0)", x.lots(2, 0), BAD);
        due("lots(1, 5)", Math.min(x.lots(1, 5), 0), 0);
        due("count(8)", x.count(8), 40);
        due("lots(1, 5)", x.lots(1, 5), FULL);
    }

    private static void p35asked() {
        CaseCutter x = programmed("case 0 3 9;range 1000 2000 4 1;case 5000 5 1;");
        due("0 before", x.asked(), 0);
        x.row(0, 1);
        x.text(1, 2);
        x.cost();
        x.worst();
        due("worst()", x.asked(), 4);
        x.reach(1000);
        due("reach()", x.asked(), 1);
        x.reach(1);
        due("reach() of none", x.asked(), 1);
        x.run(1);
        due("run() to none", x.asked(), 2);
        x.told(9, 9);
        x.part(9, 9);
        x.mark(0, 2);
        x.jump(0, 0);
        x.at(0, 9);
        x.swing(0);
        x.digest();
        x.only(1);
        x.chain();
        x.count(4);
        x.keep(0);
        due("what is refused, NONE, not told", x.asked(), 2);
    }

    private static void p36mask0() {
        CaseCutter x = programmed("case 0 1 0;case 31 2 0;");
        due("0 before", x.mask0(), 0);
        x.mask(0, 2);
        due("mask0()", x.mask0(), 1L << 31);
        x.mask(0, 9);
        due("mask0()", x.mask0(), 1L << 31);
        due("mask0()", x.mask0(), 1L << 31);
    }

    private static void p37count() {
        CaseCutter x = programmed("range -2147483648 -1 1 5;case 0 2 9;range 10 11 1 9;range 40 41 1 9;range 50 2147483647 2 3;rest 4;");
        x.row(2, 4);
        x.row(3, 0);
        x.text(3, 0);
        x.keep(1);
        x.aim(0, 3);
        int[] want = {5, 4, 3, 39, 3, 0, 1, 4, 1, 2, 2, 1};
        for (int what = 0; what < 12; what++) {
            due("count(" + what + ")", x.count(what), want[what]);
        }
        due("count(12)", x.count(12), BAD);
        due("count(-1)", x.count(-1), BAD);
        x = programmed("range 0 6 1 0;range 30 37 2 0;case 63 3 0;");
        due("count(5)", x.count(5), 1);
    }

    private static void p38finding() {
        CaseCutter x = new CaseCutter();
        x.at(0, 0);
        due("NOTHING", x.finding(), NOTHING);
        x.row(0, 0);
        due("still", x.finding(), NOTHING);
        x.at(0, 0);
        due("BEYOND", x.finding(), BEYOND);
        x.mean(0);
        due("NOUGHT", x.finding(), NOUGHT);
        x.row(0, -1);
        due("SIZE", x.finding(), SIZE);
        x.add(0, 0, 0, 0);
        x.jump(0, 0);
        due("UNLIKE", x.finding(), UNLIKE);
        x.at(9, 9);
        x.worst();
        due("BAD is none", x.finding(), UNLIKE);
    }

    private static void p39findings() {
        CaseCutter x = new CaseCutter();
        for (int i = 0; i < 7; i++) {
            x.tear(0);
        }
        x.on(0);
        due("findings(1)", x.findings(1), 8);
        due("findings(2)", x.findings(2), 0);
        due("findings(5)", x.findings(5), 0);
        due("findings(0)", x.findings(0), BAD);
        due("findings(6)", x.findings(6), BAD);
        due("findings(MIN)", x.findings(MIN), BAD);
    }

    private static void p40digest() {
        CaseCutter x = new CaseCutter();
        long h = 17;
        for (int i = 0; i < 12; i++) {
            h = 31 * h;
        }
        for (int i = 0; i < 3 + 6 + 4; i++) {
            h = 31 * h - 1;
        }
        due("of a new object", x.digest(), h);
        x = programmed("case 0 3 9;");
        x.row(1, 2);
        x.lay(1, 1, -7);
        x.text(0, 1);
        x.put(0, 0, 255);
        x.weigh(0, 8);
        x.keep(2);
        long[] all = {1, 1, 0, 8, 1, 0, 0, 0, 1, 1, 1, 1, 0, 0, 3, 8, 4, 0, 0, 0, 1, -1, -1, 1,
            -1, 2, 0, -7, -1, -1, -1, -1, 1, -1, -1, -1, -1};
        h = 17;
        for (long v : all) {
            h = 31 * h + v;
        }
        int asked = x.asked();
        due("of some", x.digest(), h);
        due("asked()", x.asked(), asked);
        x.lay(5, 0, 0);
        x.add(0, 0, 0, 0);
        due("what is refused", x.digest(), h);
    }

    private static void constants() {
        due("BAD", CaseCutter.BAD, -1);
        due("FULL", CaseCutter.FULL, -2);
        due("FINDING", CaseCutter.FINDING, -3);
        due("STATE", CaseCutter.STATE, -4);
        due("SPENT", CaseCutter.SPENT, -6);
        due("NONE", CaseCutter.NONE, -9);
    }

    private static void first20() {
        promise = 1; p01newObject();
        promise = 2; p02row();
        promise = 3; p03lay();
        promise = 4; p04at();
        promise = 5; p05tear();
        promise = 6; p06copy();
        promise = 7; p07mean();
        promise = 8; p08text();
        promise = 9; p09put();
        promise = 10; p10fault();
        promise = 11; p11program();
        promise = 12; p12write();
        promise = 13; p13hash();
        promise = 14; p14told();
        promise = 15; p15add();
        promise = 16; p16cut();
        promise = 17; p17aim();
        promise = 18; p18weigh();
        promise = 19; p19undo();
        promise = 20; p20keep();
    }

    private static void last20() {
        promise = 21; p21on();
        promise = 22; p22reach();
        promise = 23; p23run();
        promise = 24; p24cost();
        promise = 25; p25part();
        promise = 26; p26mark();
        promise = 27; p27jump();
        promise = 28; p28mask();
        promise = 29; p29only();
        promise = 30; p30chain();
        promise = 31; p31worst();
        promise = 32; p32swing();
        promise = 33; p33covered();
        promise = 34; p34lots();
        promise = 35; p35asked();
        promise = 36; p36mask0();
        promise = 37; p37count();
        promise = 38; p38finding();
        promise = 39; p39findings();
        promise = 40; p40digest();
    }

    public static void main(String[] args) {
        constants();
        first20();
        last20();
        System.out.println(wrong == 0 ? "all forty promises hold" : wrong + " answers are not as due");
        if (wrong != 0) {
            System.exit(1);
        }
    }
}
