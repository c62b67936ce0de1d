import java.util.function.ToIntFunction;

/** A test of its own for each sentence of the forty promises that names a boundary case. */
public final class BoundsOfCalls extends Bench {
    /** Ten CASES and REST, written out in 117 bytes. */
    private static final String TEN = "case0 0 0;case1 0 0;case2 0 0;case3 0 0;case4 0 0;"
            + "case5 0 0;case6 0 0;case7 0 0;case8 0 0;case9 0 0;rest 1;";
    /** ROWED: 64 numbers, of which 16 are CASES'. */
    private static final String ROW = "range 0 6 1 0;range 30 37 2 0;case 63 3 0;";
    /** MASKED: 32 numbers, two AIMS. */
    private static final String MASKS = "case 0 1 0;case 31 2 0;";
    private static final int[] NO_ROWS = {-1, 6, MIN, MAX};
    private static final int[] NO_TEXTS = {-1, 4, MIN, MAX};
    private static final int[] NO_KEPT_PLACES = {-1, 3, MIN, MAX};

    private static void allBad(CaseCutter x, String call, int[] numbers, ToIntFunction<Integer> made) {
        for (int n : numbers) {
            refuses(x, call + " of " + n, BAD, () -> made.applyAsInt(n));
        }
    }

    private static void p01newObject() {
        String here = "Promise 1: A new object";
        sentence(here, "No ROWS, TEXTS, CASES.", () -> {
            CaseCutter x = new CaseCutter();
            for (int what = 0; what < 12; what++) {
                due("count(" + what + ")", x.count(what), 0);
            }
            for (int r = 0; r < 6; r++) {
                int row = r;
                finds(x, "tear(" + r + ")", NOTHING, () -> x.tear(row));
            }
            for (int t = 0; t < 4; t++) {
                int text = t;
                finds(x, "fault(" + t + ")", NOTHING, () -> x.fault(text));
            }
            refuses(x, "cut(0)", BAD, () -> x.cut(0));
        });
    }

    private static void p02row() {
        String here = "Promise 2: row";
        sentence(here, "A ROW is there with n ints 0: n.", () -> {
            CaseCutter x = new CaseCutter();
            due("row(0, 0)", x.row(0, 0), 0);
            finds(x, "at(0, 0)", BEYOND, () -> x.at(0, 0));
            due("row(0, 1)", x.row(0, 1), 1);
            dueRow(x, 0, 0);
            due("row(0, 40)", x.row(0, 40), 40);
            for (int i = 0; i < 40; i++) {
                x.lay(0, i, -1);
            }
            due("row(0, 3) anew", x.row(0, 3), 3);
            dueRow(x, 0, 0, 0, 0);
            due("row(0, 40) anew", x.row(0, 40), 40);
            dueRow(x, 0, new int[40]);
        });
        sentence(here, "BAD: also n above 40", () -> {
            CaseCutter x = furnished();
            refuses(x, "row(0, 41)", BAD, () -> x.row(0, 41));
            refuses(x, "row(0, MAX)", BAD, () -> x.row(0, MAX));
            allBad(x, "row", NO_ROWS, r -> x.row(r, 0));
        });
        sentence(here, "SIZE: below 0", () -> {
            CaseCutter x = furnished();
            finds(x, "row(0, -1)", SIZE, () -> x.row(0, -1));
            finds(x, "row(5, MIN)", SIZE, () -> x.row(5, MIN));
        });
    }

    private static void p03lay() {
        String here = "Promise 3: lay";
        sentence(here, "Place i of a ROW is v: what it was, told by asked(): 1.", () -> {
            CaseCutter x = new CaseCutter();
            x.row(5, 40);
            tells(x, "lay(5, 0, MIN)", x.lay(5, 0, MIN), 0);
            tells(x, "lay(5, 0, MAX)", x.lay(5, 0, MAX), MIN);
            tells(x, "lay(5, 39, -1)", x.lay(5, 39, -1), 0);
            tells(x, "lay(5, 0, 0)", x.lay(5, 0, 0), MAX);
            tells(x, "lay(5, 39, 1)", x.lay(5, 39, 1), -1);
        });
        sentence(here, "BAD", () -> {
            CaseCutter x = furnished();
            allBad(x, "lay", NO_ROWS, r -> x.lay(r, 0, 1));
        });
        sentence(here, "NOTHING", () -> {
            CaseCutter x = furnished();
            finds(x, "lay(4, 0, 1)", NOTHING, () -> x.lay(4, 0, 1));
            finds(x, "lay(4, -1, 1), BEYOND too", NOTHING, () -> x.lay(4, -1, 1));
            x.tear(0);
            finds(x, "lay(0, 0, 1)", NOTHING, () -> x.lay(0, 0, 1));
        });
        sentence(here, "BEYOND.", () -> {
            CaseCutter x = furnished();
            for (int i : new int[] {3, 39, -1, MIN, MAX}) {
                finds(x, "lay(0, " + i + ", 1)", BEYOND, () -> x.lay(0, i, 1));
            }
            finds(x, "lay(1, 0, 1) of no places", BEYOND, () -> x.lay(1, 0, 1));
        });
    }

    private static void p04at() {
        String here = "Promise 4: at";
        sentence(here, "Place i of a ROW, told by asked(): 1.", () -> {
            CaseCutter x = new CaseCutter();
            x.row(0, 40);
            x.lay(0, 0, MIN);
            x.lay(0, 39, MAX);
            tells(x, "at(0, 0)", x.at(0, 0), MIN);
            tells(x, "at(0, 39)", x.at(0, 39), MAX);
            tells(x, "at(0, 38)", x.at(0, 38), 0);
        });
        sentence(here, "BAD", () -> {
            CaseCutter x = furnished();
            allBad(x, "at", NO_ROWS, r -> x.at(r, 0));
        });
        sentence(here, "NOTHING", () -> {
            CaseCutter x = furnished();
            finds(x, "at(4, 0)", NOTHING, () -> x.at(4, 0));
            finds(x, "at(4, -1), BEYOND too", NOTHING, () -> x.at(4, -1));
            x.tear(0);
            finds(x, "at(0, 0)", NOTHING, () -> x.at(0, 0));
        });
        sentence(here, "BEYOND.", () -> {
            CaseCutter x = furnished();
            for (int i : new int[] {3, 39, -1, MIN, MAX}) {
                finds(x, "at(0, " + i + ")", BEYOND, () -> x.at(0, i));
            }
            finds(x, "at(1, 0) of no places", BEYOND, () -> x.at(1, 0));
        });
    }

    private static void p05tear() {
        String here = "Promise 5: tear";
        sentence(here, "A ROW is missing: 1.", () -> {
            CaseCutter x = furnished();
            due("tear(0)", x.tear(0), 1);
            due("tear(1), no places", x.tear(1), 1);
            due("count(9)", x.count(9), 0);
            due("row(0, 3)", x.row(0, 3), 3);
            dueRow(x, 0, 0, 0, 0);
        });
        sentence(here, "BAD", () -> {
            CaseCutter x = furnished();
            allBad(x, "tear", NO_ROWS, x::tear);
        });
        sentence(here, "NOTHING.", () -> {
            CaseCutter x = furnished();
            finds(x, "tear(4)", NOTHING, () -> x.tear(4));
            x.tear(0);
            finds(x, "tear(0) again", NOTHING, () -> x.tear(0));
        });
    }

    private static CaseCutter counting() {
        CaseCutter x = new CaseCutter();
        x.row(0, 5);
        for (int i = 0; i < 5; i++) {
            x.lay(0, i, i + 1);
        }
        x.row(1, 3);
        x.row(2, 0);
        return x;
    }

    private static void p06copy() {
        String here = "Promise 6: copy";
        sentence(here, "n places of a ROW, from one on, come to those of another one (perhaps itself) from one on", () -> {
            CaseCutter x = counting();
            due("copy(0, 2, 1, 0, 3)", x.copy(0, 2, 1, 0, 3), 1);
            dueRow(x, 1, 3, 4, 5);
            due("copy(0, 0, 1, 2, 1)", x.copy(0, 0, 1, 2, 1), 1);
            dueRow(x, 1, 3, 4, 1);
            due("copy of none at both ends", x.copy(0, 5, 1, 3, 0), 1);
            due("copy of none of none", x.copy(2, 0, 2, 0, 0), 1);
            due("copy of all to itself", x.copy(0, 0, 0, 0, 5), 1);
            dueRow(x, 0, 1, 2, 3, 4, 5);
            x.row(4, 40);
            x.row(5, 40);
            x.lay(4, 0, 7);
            x.lay(4, 39, 8);
            due("copy of 40", x.copy(4, 0, 5, 0, 40), 1);
            tells(x, "at(5, 0)", x.at(5, 0), 7);
            tells(x, "at(5, 39)", x.at(5, 39), 8);
        });
        sentence(here, "as if taken ahead: 1.", () -> {
            CaseCutter x = counting();
            due("copy(0, 0, 0, 1, 4)", x.copy(0, 0, 0, 1, 4), 1);
            dueRow(x, 0, 1, 1, 2, 3, 4);
            CaseCutter y = counting();
            due("copy(0, 1, 0, 0, 4)", y.copy(0, 1, 0, 0, 4), 1);
            dueRow(y, 0, 2, 3, 4, 5, 5);
        });
        sentence(here, "BAD", () -> {
            CaseCutter x = furnished();
            allBad(x, "copy from", NO_ROWS, r -> x.copy(r, 0, 0, 0, 0));
            allBad(x, "copy to", NO_ROWS, r -> x.copy(0, 0, r, 0, 0));
        });
        sentence(here, "SIZE: n below 0", () -> {
            CaseCutter x = furnished();
            finds(x, "copy of -1", SIZE, () -> x.copy(0, 0, 0, 0, -1));
            finds(x, "copy of MIN", SIZE, () -> x.copy(0, 1, 0, 1, MIN));
            finds(x, "copy of -1, NOTHING too", SIZE, () -> x.copy(4, 0, 0, 0, -1));
            finds(x, "copy of -1, BEYOND too", SIZE, () -> x.copy(0, 99, 0, 0, -1));
        });
        sentence(here, "NOTHING: either", () -> {
            CaseCutter x = furnished();
            finds(x, "copy from 4", NOTHING, () -> x.copy(4, 0, 0, 0, 0));
            finds(x, "copy to 4", NOTHING, () -> x.copy(0, 0, 4, 0, 0));
            finds(x, "copy from 4 to 4", NOTHING, () -> x.copy(4, 0, 4, 0, 1));
            finds(x, "copy to 4, BEYOND too", NOTHING, () -> x.copy(0, 99, 4, 0, 1));
        });
        sentence(here, "BEYOND: not so many there.", () -> {
            int[][] beyond = {{0, 3, 1, 0, 3}, {0, 0, 1, 1, 3}, {0, 0, 1, 0, 4}, {0, 5, 1, 0, 1}, {0, 0, 1, 3, 1},
                {0, -1, 1, 0, 1}, {0, 0, 1, -1, 1}, {0, -1, 1, 0, 0}, {0, 0, 1, -1, 0}, {0, 6, 1, 0, 0}, {0, 0, 1, 4, 0},
                {2, 0, 1, 0, 1}, {0, 0, 2, 0, 1}, {0, 0, 0, 0, MAX}, {0, 1, 0, 1, MAX}, {0, MAX, 1, 0, 1},
                {0, 0, 1, MAX, 1}, {0, MAX, 1, 0, MAX}, {0, MIN, 1, 0, 1}, {0, 0, 1, MIN, 3}};
            for (int[] b : beyond) {
                CaseCutter x = counting();
                finds(x, "copy" + java.util.Arrays.toString(b), BEYOND, () -> x.copy(b[0], b[1], b[2], b[3], b[4]));
            }
        });
    }

    private static void dueMean(int mean, int... ints) {
        CaseCutter x = new CaseCutter();
        x.row(3, ints.length);
        for (int i = 0; i < ints.length; i++) {
            x.lay(3, i, ints[i]);
        }
        tells(x, "mean of " + java.util.Arrays.toString(ints), x.mean(3), mean);
    }

    private static void p07mean() {
        String here = "Promise 7: mean";
        sentence(here, "The mean of a ROW's ints, cut, told by asked(): 1.", () -> {
            dueMean(7, 7);
            dueMean(1, 3, 0);
            dueMean(-1, -3, 0);
            dueMean(0, -1, 0, 0);
            dueMean(0, MIN, MAX);
            int[] all = new int[40];
            java.util.Arrays.fill(all, MIN);
            dueMean(MIN, all);
            java.util.Arrays.fill(all, MAX);
            dueMean(MAX, all);
            all[0] = MAX - 1;
            dueMean(MAX - 1, all);
        });
        sentence(here, "BAD", () -> {
            CaseCutter x = furnished();
            allBad(x, "mean", NO_ROWS, x::mean);
        });
        sentence(here, "NOTHING", () -> {
            CaseCutter x = furnished();
            finds(x, "mean(4)", NOTHING, () -> x.mean(4));
        });
        sentence(here, "NOUGHT.", () -> {
            CaseCutter x = furnished();
            finds(x, "mean(1)", NOUGHT, () -> x.mean(1));
        });
    }

    private static void p08text() {
        String here = "Promise 8: text";
        sentence(here, "A TEXT is there with n blanks: n.", () -> {
            CaseCutter x = new CaseCutter();
            due("text(0, 0)", x.text(0, 0), 0);
            due("count(10)", x.count(10), 1);
            due("text(0, 120)", x.text(0, 120), 120);
            for (int i = 0; i < 120; i++) {
                due("put(0, " + i + ", 65)", x.put(0, i, 65), 1032);
            }
            due("text(0, 2) anew", x.text(0, 2), 2);
            due("put(0, 1, 65)", x.put(0, 1, 65), 1032);
            due("text(0, 120) anew", x.text(0, 120), 120);
            for (int i = 0; i < 120; i++) {
                due("put(0, " + i + ", 65) anew", x.put(0, i, 65), 1032);
            }
        });
        sentence(here, "BAD: also n above 120", () -> {
            CaseCutter x = furnished();
            refuses(x, "text(1, 121)", BAD, () -> x.text(1, 121));
            refuses(x, "text(1, MAX)", BAD, () -> x.text(1, MAX));
            allBad(x, "text", NO_TEXTS, t -> x.text(t, 0));
        });
        sentence(here, "SIZE: below 0", () -> {
            CaseCutter x = furnished();
            finds(x, "text(1, -1)", SIZE, () -> x.text(1, -1));
            finds(x, "text(3, MIN)", SIZE, () -> x.text(3, MIN));
        });
    }

    private static void p09put() {
        String here = "Promise 9: put";
        sentence(here, "Byte i of a TEXT is v, cut to a byte: what it was, and 1000 more.", () -> {
            CaseCutter x = new CaseCutter();
            x.text(3, 120);
            int[] values = {0, 127, 128, 255, 256, -1, -128, -129, MIN, MAX, 256 + 97, -256 - 97};
            int[] bytes = {0, 127, -128, -1, 0, -1, -128, 127, 0, -1, 97, -97};
            int before = 32;
            for (int i = 0; i < values.length; i++) {
                due("put(3, 119, " + values[i] + ")", x.put(3, 119, values[i]), 1000 + before);
                before = bytes[i];
            }
            due("put(3, 119, 32)", x.put(3, 119, 32), 1000 - 97);
            due("put(3, 0, 32)", x.put(3, 0, 32), 1032);
        });
        sentence(here, "BAD", () -> {
            CaseCutter x = furnished();
            allBad(x, "put", NO_TEXTS, t -> x.put(t, 0, 65));
        });
        sentence(here, "NOTHING", () -> {
            CaseCutter x = furnished();
            finds(x, "put(3, 0, 65)", NOTHING, () -> x.put(3, 0, 65));
            finds(x, "put(3, -1, 65), BEYOND too", NOTHING, () -> x.put(3, -1, 65));
        });
        sentence(here, "BEYOND.", () -> {
            CaseCutter x = furnished();
            for (int i : new int[] {2, 119, -1, MIN, MAX}) {
                finds(x, "put(1, " + i + ", 65)", BEYOND, () -> x.put(1, i, 65));
            }
            x.text(2, 0);
            finds(x, "put(2, 0, 65) of no bytes", BEYOND, () -> x.put(2, 0, 65));
        });
    }

    private static void p10fault() {
        String here = "Promise 10: fault";
        sentence(here, "A FAULT of a TEXT; NONE: there is none.", () -> {
            CaseCutter x = furnished();
            none(x, "fault(0)", () -> x.fault(0));
            x.text(2, 0);
            none(x, "fault of no bytes", () -> x.fault(2));
            x.text(2, 120);
            none(x, "fault of 120 blanks", () -> x.fault(2));
            // a FAULT is an answer, no refusal, and the PROGRAM stays
            x.put(2, 119, ';');
            refuses(x, "fault at the last byte", 119, () -> x.fault(2));
            x.put(2, 0, ';');
            refuses(x, "fault at the first byte", 0, () -> x.fault(2));
        });
        sentence(here, "BAD", () -> {
            CaseCutter x = furnished();
            allBad(x, "fault", NO_TEXTS, x::fault);
        });
        sentence(here, "NOTHING.", () -> {
            CaseCutter x = furnished();
            finds(x, "fault(3)", NOTHING, () -> x.fault(3));
        });
    }

    private static void p11program() {
        String here = "Promise 11: program";
        sentence(here, "(anew: no DEEDS", () -> {
            CaseCutter x = withDeeds(40);
            due("program(0)", x.program(0), 1);
            due("count(8)", x.count(8), 0);
            due("undo(0)", x.undo(0), 0);
            refuses(x, "undo(1)", BAD, () -> x.undo(1));
            due("a DEED", x.cut(0), 0);
            due("undo(0)", x.undo(0), 1);
            due("reach(0)", x.reach(0), 0);
            x.aim(0, 5);
            x.swing(0);
            due("program(0) behind swing(0)", x.program(0), 1);
            due("count(8)", x.count(8), 0);
        });
        sentence(here, "kept PROGRAMS go", () -> {
            CaseCutter x = withDeeds(2);
            x.keep(0);
            x.keep(1);
            x.keep(2);
            due("count(11)", x.count(11), 3);
            due("program(0)", x.program(0), 1);
            due("count(11)", x.count(11), 0);
            for (int k = 0; k < 3; k++) {
                int place = k;
                finds(x, "on(" + k + ")", NOTHING, () -> x.on(place));
            }
        });
        sentence(here, "REST 0, if it is not told)", () -> {
            CaseCutter x = of("case 0 0 0;rest 9;");
            type(x, 1, "case 1 1 1;");
            due("program(1)", x.program(1), 1);
            due("count(7)", x.count(7), 0);
            type(x, 1, "rest 9;");
            x.program(1);
            due("count(7)", x.count(7), 9);
            x.text(1, 0);
            due("program of no bytes", x.program(1), 0);
            due("count(7)", x.count(7), 0);
        });
        sentence(here, "how many CASES.", () -> {
            CaseCutter x = furnished();
            x.text(2, 120);
            due("program of blanks", x.program(2), 0);
            due("count(0)", x.count(0), 0);
            due("count(1)", x.count(1), 0);
            CaseCutter y = new CaseCutter();
            type(y, 0, "name a0 0;name b0 0;name c0 0;name d0 0;name e0 0;name f0 0;"
                    + "name g0 0;name h0 0;name i0 0;name j0 0;name k0 0;name l0 0;");
            due("program of twelve", y.program(0), 12);
            refuses(y, "add, twelve are there", FULL, () -> y.add(5, 5, 0, 0));
        });
        sentence(here, "BAD", () -> {
            CaseCutter x = furnished();
            allBad(x, "program", NO_TEXTS, x::program);
        });
        sentence(here, "NOTHING", () -> {
            CaseCutter x = furnished();
            finds(x, "program(3)", NOTHING, () -> x.program(3));
        });
        sentence(here, "(STATE behind NOTHING.)", () -> {
            // the same PROGRAM: a TEXT that is missing, then there with a FAULT, then without one
            CaseCutter x = new CaseCutter();
            finds(x, "program(0), missing", NOTHING, () -> x.program(0));
            x.text(0, 1);
            x.put(0, 0, '?');
            refuses(x, "program(0), a FAULT", STATE, () -> x.program(0));
            x.put(0, 0, ' ');
            due("program(0)", x.program(0), 0);
        });
        sentence(here, "STATE: a FAULT.", () -> {
            CaseCutter x = furnished();
            type(x, 2, "rest 1;case 7 7 7;?");
            refuses(x, "program(2), its last byte is none", STATE, () -> x.program(2));
            type(x, 2, "case 1 1 1;rest 1");
            refuses(x, "program(2), it ends too early", STATE, () -> x.program(2));
            due("on(1)", x.on(1), 1);
        });
    }

    private static void p12write() {
        String here = "Promise 12: write";
        sentence(here, "The PROGRAM is written out: a TEXT is there with it: how many bytes.", () -> {
            CaseCutter x = new CaseCutter();
            due("write(0) of none", x.write(0), 0);
            due("count(10)", x.count(10), 1);
            finds(x, "put(0, 0, 65)", BEYOND, () -> x.put(0, 0, 65));
            x.text(2, 120);
            x.add(5, 5, 1, 2);
            dueWritten(x, "case 5 1 2;");
            finds(x, "put(2, 11, 65)", BEYOND, () -> x.put(2, 11, 65));
        });
        sentence(here, "STATEMENTS by CASES' numbers", () -> {
            CaseCutter x = of("case 2147483647 0 0;case 0 1 1;case -2147483648 7 9;");
            dueWritten(x, "case -2147483648 7 9;case 0 1 1;case 2147483647 0 0;");
        });
        sentence(here, "case, if LOW is HIGH, else range", () -> {
            dueWritten(of("range 5 5 1 1;range 6 7 2 2;name a 3 3;"), "case 5 1 1;range 6 7 2 2;case 97 3 3;");
            dueWritten(of("range -2147483648 2147483647 7 9;"), "range -2147483648 2147483647 7 9;");
        });
        sentence(here, "rest W behind them, if REST is not 0", () -> {
            dueWritten(of("rest 9;"), "rest 9;");
            dueWritten(of("rest 0;"), "");
            dueWritten(of("rest 1;case 5 1 1;"), "case 5 1 1;rest 1;");
            dueWritten(of("rest 0;case 5 1 1;"), "case 5 1 1;");
        });
        sentence(here, "a blank between TOKENS, none ahead of ; nor behind.", () -> {
            dueWritten(of("  range   -10 -009   0   0  ;  rest   5  ;  "), "range -10 -9 0 0;rest 5;");
        });
        sentence(here, "BAD", () -> {
            CaseCutter x = furnished();
            allBad(x, "write", NO_TEXTS, x::write);
        });
        sentence(here, "SPENT: it would be more than 120.", () -> {
            CaseCutter x = of(TEN);
            due("write of 117", x.write(1), 117);
            x.cut(0);
            x.add(-100, -100, 0, 0);
            due("write of 120", x.write(1), 120);
            none(x, "fault of 120", () -> x.fault(1));
            x.cut(0);
            x.add(-1000, -1000, 0, 0);
            refuses(x, "write of 121", SPENT, () -> x.write(1));
            refuses(x, "write of 121, a missing TEXT", SPENT, () -> x.write(3));
            CaseCutter most = new CaseCutter();
            for (int i = 0; i < 12; i++) {
                most.add(MIN + 2 * i, MIN + 2 * i + 1, 0, 0);
            }
            refuses(most, "write of the most", SPENT, () -> most.write(0));
        });
    }

    private static CaseCutter named(int... letters) {
        CaseCutter x = new CaseCutter();
        x.row(0, letters.length);
        for (int i = 0; i < letters.length; i++) {
            x.lay(0, i, letters[i]);
        }
        return x;
    }

    private static void p13hash() {
        String here = "Promise 13: hash";
        sentence(here, "The HASH of a NAME: a ROW of 1 to 6 numbers 0 .. 25 (a .. z), told by asked(): 1.", () -> {
            CaseCutter x = named(0);
            tells(x, "hash of a", x.hash(0), 97);
            x = named(25);
            tells(x, "hash of z", x.hash(0), 122);
            x = named(0, 0, 0, 0, 0, 0);
            tells(x, "hash of aaaaaa", x.hash(0), "aaaaaa".hashCode());
            x = named(25, 25, 25, 25, 25, 25);
            tells(x, "hash of zzzzzz, gone round", x.hash(0), -685785664);
        });
        sentence(here, "BAD", () -> {
            CaseCutter x = furnished();
            allBad(x, "hash", NO_ROWS, x::hash);
        });
        sentence(here, "NOTHING", () -> {
            CaseCutter x = furnished();
            finds(x, "hash(4)", NOTHING, () -> x.hash(4));
        });
        sentence(here, "SIZE", () -> {
            CaseCutter x = named();
            finds(x, "hash of none", SIZE, () -> x.hash(0));
            CaseCutter seven = named(1, 1, 1, 1, 1, 1, 1);
            finds(seven, "hash of seven", SIZE, () -> seven.hash(0));
            CaseCutter forty = named(new int[40]);
            finds(forty, "hash of forty", SIZE, () -> forty.hash(0));
        });
        sentence(here, "UNLIKE: a number that is none.", () -> {
            for (int v : new int[] {-1, 26, 97, MIN, MAX}) {
                CaseCutter first = named(v, 0, 0, 0, 0, 0);
                finds(first, "hash with " + v + " first", UNLIKE, () -> first.hash(0));
                CaseCutter last = named(0, 0, 0, 0, 0, v);
                finds(last, "hash with " + v + " last", UNLIKE, () -> last.hash(0));
            }
        });
        sentence(here, "(In this order.)", () -> {
            CaseCutter x = named(26, 26, 26, 26, 26, 26, 26);
            finds(x, "hash of seven that are none", SIZE, () -> x.hash(0));
        });
    }

    private static void p14told() {
        String here = "Promise 14: told";
        sentence(here, "Of a CASE: 0 LOW, 1 HIGH, 2 AIM, 3 WEIGHT, told by asked(): 1.", () -> {
            CaseCutter x = of("range -2147483648 -1 7 9;range 0 2147483647 0 0;");
            dueCase(x, 0, MIN, -1, 7, 9);
            dueCase(x, 1, 0, MAX, 0, 0);
        });
        sentence(here, "BAD.", () -> {
            CaseCutter x = furnished();
            allBad(x, "told, CASE", new int[] {-1, 3, 12, MIN, MAX}, i -> x.told(i, 0));
            allBad(x, "told, what", new int[] {-1, 4, MIN, MAX}, what -> x.told(0, what));
            x.cut(2);
            refuses(x, "told of a CASE that is CUT", BAD, () -> x.told(2, 0));
            CaseCutter none = new CaseCutter();
            refuses(none, "told(0, 0), no CASES", BAD, () -> none.told(0, 0));
        });
    }

    private static void p15add() {
        String here = "Promise 15: add";
        sentence(here, "A CASE is ADDED: its number.", () -> {
            CaseCutter x = new CaseCutter();
            due("the first", x.add(0, 5, 7, 9), 0);
            due("behind", x.add(6, MAX, 0, 0), 1);
            due("ahead", x.add(MIN, -2, 1, 1), 0);
            due("between", x.add(-1, -1, 2, 2), 1);
            dueCase(x, 0, MIN, -2, 1, 1);
            dueCase(x, 1, -1, -1, 2, 2);
            dueCase(x, 2, 0, 5, 7, 9);
            dueCase(x, 3, 6, MAX, 0, 0);
            due("count(8)", x.count(8), 4);
        });
        sentence(here, "BAD: low above high, too", () -> {
            CaseCutter x = furnished();
            refuses(x, "add(51, 50, 0, 0)", BAD, () -> x.add(51, 50, 0, 0));
            refuses(x, "add(MAX, MIN, 0, 0)", BAD, () -> x.add(MAX, MIN, 0, 0));
            allBad(x, "add of AIM", new int[] {-1, 8, MIN, MAX}, a -> x.add(50, 50, a, 0));
            allBad(x, "add of WEIGHT", new int[] {-1, 10, MIN, MAX}, w -> x.add(50, 50, 0, w));
        });
        sentence(here, "STATE: one of them is another CASE's", () -> {
            CaseCutter x = furnished();
            int[][] others = {{1, 2}, {-1, 0}, {29, 30}, {31, 32}, {30, 30}, {98, 100}, {MIN, MAX}, {2, 99}};
            for (int[] o : others) {
                refuses(x, "add(" + o[0] + ", " + o[1] + ", 0, 0)", STATE, () -> x.add(o[0], o[1], 0, 0));
            }
            due("add(2, 29, 0, 0)", x.add(2, 29, 0, 0), 1);
        });
        sentence(here, "FULL: 12 CASES", () -> {
            CaseCutter x = withCases(11);
            due("the 12th", x.add(MAX, MAX, 0, 0), 11);
            refuses(x, "the 13th", FULL, () -> x.add(MIN, MIN, 0, 0));
        });
        sentence(here, "40 DEEDS.", () -> {
            CaseCutter x = withDeeds(39);
            due("the 40th DEED", x.add(5, 5, 0, 0), 1);
            refuses(x, "the 41st DEED", FULL, () -> x.add(6, 6, 0, 0));
        });
        sentence(here, "(FULL last.)", () -> {
            CaseCutter twelve = withCases(12);
            refuses(twelve, "12 CASES, AIM 8", BAD, () -> twelve.add(5, 5, 8, 0));
            refuses(twelve, "12 CASES, low above high", BAD, () -> twelve.add(5, 4, 0, 0));
            refuses(twelve, "12 CASES, another CASE's", STATE, () -> twelve.add(0, 0, 0, 0));
            CaseCutter forty = withDeeds(40);
            refuses(forty, "40 DEEDS, WEIGHT 10", BAD, () -> forty.add(5, 5, 0, 10));
            refuses(forty, "40 DEEDS, another CASE's", STATE, () -> forty.add(0, 0, 0, 0));
        });
    }

    private static void p16cut() {
        String here = "Promise 16: cut";
        sentence(here, "A CASE is CUT: how many are left.", () -> {
            CaseCutter x = withCases(12);
            due("cut(11), the last", x.cut(11), 11);
            due("cut(0), the first", x.cut(0), 10);
            tells(x, "told(0, 0)", x.told(0, 0), 1000);
            tells(x, "told(9, 0)", x.told(9, 0), 10000);
            due("cut(5)", x.cut(5), 9);
            tells(x, "told(5, 0)", x.told(5, 0), 7000);
            CaseCutter one = of("case 5 1 1;");
            due("cut of the only one", one.cut(0), 0);
            none(one, "reach(5)", () -> one.reach(5));
        });
        sentence(here, "BAD", () -> {
            CaseCutter x = furnished();
            allBad(x, "cut", new int[] {-1, 3, 12, MIN, MAX}, x::cut);
            CaseCutter none = new CaseCutter();
            refuses(none, "cut(0), no CASES", BAD, () -> none.cut(0));
        });
        sentence(here, "FULL.", () -> {
            CaseCutter x = withDeeds(39);
            due("the 40th DEED", x.cut(0), 0);
            x.undo(39);
            x.weigh(0, 1);
            refuses(x, "the 41st DEED", FULL, () -> x.cut(0));
        });
    }

    private static void p17aim() {
        String here = "Promise 17: aim";
        sentence(here, "AIMED: the AIM till then.", () -> {
            CaseCutter x = of("case 0 0 1;case 5 7 1;");
            due("aim(0, 7)", x.aim(0, 7), 0);
            due("aim(1, 0)", x.aim(1, 0), 7);
            due("reach(0)", x.reach(0), 7);
            due("reach(5)", x.reach(5), 0);
            due("count(8)", x.count(8), 2);
        });
        sentence(here, "BAD", () -> {
            CaseCutter x = furnished();
            allBad(x, "aim of CASE", new int[] {-1, 3, 12, MIN, MAX}, i -> x.aim(i, 0));
            allBad(x, "aim of AIM", new int[] {-1, 8, MIN, MAX}, a -> x.aim(0, a));
        });
        sentence(here, "STATE: it is that", () -> {
            CaseCutter x = of("case 0 0 1;case 5 7 1;");
            refuses(x, "aim(0, 0)", STATE, () -> x.aim(0, 0));
            refuses(x, "aim(1, 7)", STATE, () -> x.aim(1, 7));
        });
        sentence(here, "FULL.", () -> {
            CaseCutter x = withDeeds(39);
            due("the 40th DEED", x.aim(0, 7), 1);
            refuses(x, "the 41st DEED", FULL, () -> x.aim(0, 6));
        });
        sentence(here, "(FULL last.)", () -> {
            CaseCutter x = withDeeds(40);
            refuses(x, "40 DEEDS, it is that", STATE, () -> x.aim(0, 0));
            refuses(x, "40 DEEDS, AIM 8", BAD, () -> x.aim(0, 8));
            refuses(x, "40 DEEDS, no CASE", BAD, () -> x.aim(1, 0));
        });
    }

    private static void p18weigh() {
        String here = "Promise 18: weigh";
        sentence(here, "WEIGHED: the WEIGHT till then.", () -> {
            CaseCutter x = of("case 0 0 0;case 5 7 9;");
            due("weigh(0, 9)", x.weigh(0, 9), 0);
            due("weigh(1, 0)", x.weigh(1, 0), 9);
            tells(x, "told(0, 3)", x.told(0, 3), 9);
            tells(x, "told(1, 3)", x.told(1, 3), 0);
            due("count(8)", x.count(8), 2);
        });
        sentence(here, "BAD", () -> {
            CaseCutter x = furnished();
            allBad(x, "weigh of CASE", new int[] {-1, 3, 12, MIN, MAX}, i -> x.weigh(i, 0));
            allBad(x, "weigh of WEIGHT", new int[] {-1, 10, MIN, MAX}, w -> x.weigh(0, w));
        });
        sentence(here, "STATE: it is that", () -> {
            CaseCutter x = of("case 0 0 0;case 5 7 9;");
            refuses(x, "weigh(0, 0)", STATE, () -> x.weigh(0, 0));
            refuses(x, "weigh(1, 9)", STATE, () -> x.weigh(1, 9));
        });
        sentence(here, "FULL.", () -> {
            CaseCutter x = withDeeds(39);
            due("the 40th DEED", x.weigh(0, 9), 0);
            refuses(x, "the 41st DEED", FULL, () -> x.weigh(0, 8));
        });
        sentence(here, "(FULL last.)", () -> {
            CaseCutter x = withDeeds(40);
            refuses(x, "40 DEEDS, it is that", STATE, () -> x.weigh(0, 0));
            refuses(x, "40 DEEDS, WEIGHT 10", BAD, () -> x.weigh(0, 10));
            refuses(x, "40 DEEDS, no CASE", BAD, () -> x.weigh(1, 0));
        });
    }

    private static void p19undo() {
        String here = "Promise 19: undo";
        sentence(here, "DEEDS from number n on are undone: how many.", () -> {
            CaseCutter x = of("range 1 2 1 1;case 4 2 2;rest 5;");
            due("undo(0), no DEEDS", x.undo(0), 0);
            long[] digests = new long[5];
            digests[0] = x.digest();
            x.cut(0);
            digests[1] = x.digest();
            x.add(MIN, 3, 7, 9);
            digests[2] = x.digest();
            x.aim(1, 0);
            digests[3] = x.digest();
            x.weigh(0, 0);
            digests[4] = x.digest();
            due("undo(4), none", x.undo(4), 0);
            for (int n = 3; n >= 0; n--) {
                due("digest()", x.digest(), digests[n + 1]);
                due("undo(" + n + ")", x.undo(n), 1);
            }
            due("digest()", x.digest(), digests[0]);
            x.lots(20, 99);
            x.lots(20, 4);
            due("undo(39)", x.undo(39), 1);
            due("undo(0), 39 of them", x.undo(0), 39);
            due("digest()", x.digest(), digests[0]);
            due("count(7)", x.count(7), 5);
        });
        sentence(here, "BAD.", () -> {
            CaseCutter x = furnished();
            allBad(x, "undo", new int[] {-1, 3, 40, 41, MIN, MAX}, x::undo);
            due("undo(2)", x.undo(2), 0);
            x.undo(1);
            refuses(x, "undo(2) of one DEED", BAD, () -> x.undo(2));
            CaseCutter full = withDeeds(40);
            due("undo(40)", full.undo(40), 0);
            refuses(full, "undo(41)", BAD, () -> full.undo(41));
        });
    }

    private static void p20keep() {
        String here = "Promise 20: keep";
        sentence(here, "The PROGRAM (CASES, REST, DEEDS) is kept in a place (0 .. 2): how many DEEDS.", () -> {
            CaseCutter x = new CaseCutter();
            due("keep(0) of none", x.keep(0), 0);
            due("count(11)", x.count(11), 1);
            type(x, 0, "case 0 0 0;rest 9;");
            x.program(0);
            due("keep(2)", x.keep(2), 0);
            for (int d = 0; d < 40; d++) {
                x.aim(0, d % 2 == 0 ? 1 : 0);
            }
            due("keep(1) of 40", x.keep(1), 40);
            x.undo(1);
            due("keep(0)", x.keep(0), 1);
            due("count(11)", x.count(11), 3);
            due("on(1)", x.on(1), 40);
            refuses(x, "cut(0)", FULL, () -> x.cut(0));
            due("undo(0)", x.undo(0), 40);
            due("on(0)", x.on(0), 1);
            due("reach(0)", x.reach(0), 1);
            due("count(7)", x.count(7), 9);
            x.cut(0);
            due("keep(0) over it", x.keep(0), 2);
            due("count(11)", x.count(11), 3);
        });
        sentence(here, "BAD.", () -> {
            CaseCutter x = furnished();
            allBad(x, "keep", NO_KEPT_PLACES, x::keep);
        });
    }

    private static void p21on() {
        String here = "Promise 21: on";
        sentence(here, "The PROGRAM is as it was kept: how many DEEDS.", () -> {
            CaseCutter x = of("case 0 0 0;rest 9;");
            x.keep(0);
            long none = x.digest();
            x.weigh(0, 5);
            due("on(0)", x.on(0), 0);
            due("digest()", x.digest(), none);
            refuses(x, "undo(1)", BAD, () -> x.undo(1));
            x.lots(20, 5);
            x.lots(20, 6);
            x.keep(1);
            long forty = x.digest();
            x.undo(0);
            due("on(1)", x.on(1), 40);
            due("digest()", x.digest(), forty);
            // going on from it leaves what is kept as it is
            x.undo(20);
            due("on(1) again", x.on(1), 40);
            due("digest()", x.digest(), forty);
            due("undo(0)", x.undo(0), 40);
            due("reach(0)", x.reach(0), 0);
            due("count(0)", x.count(0), 1);
        });
        sentence(here + ", its DEEDS", "The PROGRAM is as it was kept", () -> {
            CaseCutter x = of("range 1 2 1 1;case 4 2 2;rest 5;");
            long[] digests = new long[5];
            for (int round = 0; round < 2; round++) {
                digests[0] = x.digest();
                x.cut(0);
                digests[1] = x.digest();
                x.add(-5, 3, 7, 9);
                digests[2] = x.digest();
                x.aim(1, 0);
                digests[3] = x.digest();
                x.weigh(0, 0);
                digests[4] = x.digest();
                // the first round is for digests that have the kept PROGRAM in them
                x.keep(1);
                if (round == 0) {
                    x.undo(0);
                }
            }
            x.undo(0);
            x.weigh(1, 7);
            x.aim(0, 6);
            x.add(100, 200, 3, 4);
            x.cut(1);
            due("on(1)", x.on(1), 4);
            for (int n = 3; n >= 0; n--) {
                due("digest()", x.digest(), digests[n + 1]);
                due("undo(" + n + ")", x.undo(n), 1);
            }
            due("digest()", x.digest(), digests[0]);
        });
        sentence(here, "BAD", () -> {
            CaseCutter x = furnished();
            allBad(x, "on", NO_KEPT_PLACES, x::on);
        });
        sentence(here, "NOTHING.", () -> {
            CaseCutter x = furnished();
            finds(x, "on(2)", NOTHING, () -> x.on(2));
            CaseCutter none = new CaseCutter();
            finds(none, "on(0)", NOTHING, () -> none.on(0));
        });
    }

    private static void p22reach() {
        String here = "Promise 22: reach";
        sentence(here, "The AIM of the CASE whose a selector is; its number by asked().", () -> {
            CaseCutter x = of("range -2147483648 -2147483647 1 0;case 0 2 0;range 2147483646 2147483647 3 0;");
            int[][] want = {{MAX, 3, 2}, {MAX - 1, 3, 2}, {0, 2, 1}, {MIN, 1, 0}, {MIN + 1, 1, 0}};
            for (int[] w : want) {
                due("reach(" + w[0] + ")", x.reach(w[0]), w[1]);
                due("reach(" + w[0] + "), then asked()", x.asked(), w[2]);
            }
        });
        sentence(here, "NONE: of none.", () -> {
            CaseCutter x = of("range -2147483648 -2147483647 1 0;case 0 2 0;range 2147483646 2147483647 3 0;");
            x.reach(MAX);
            for (int n : new int[] {MIN + 2, -1, 1, MAX - 2}) {
                none(x, "reach(" + n + ")", () -> x.reach(n));
            }
            CaseCutter empty = new CaseCutter();
            none(empty, "reach(0), no CASES", () -> empty.reach(0));
        });
    }

    private static void p23run() {
        String here = "Promise 23: run";
        sentence(here, "To which AIM it comes by THE PLAN; STEPS by asked().", () -> {
            CaseCutter x = of("case 0 0 9;range 1000 2000 7 1;case 5000 5 1;");
            dueRun(x, 0, 0, 2);
            dueRun(x, 1000, 7, 4);
            dueRun(x, 2000, 7, 4);
            dueRun(x, 5000, 5, 3);
        });
        sentence(here, "NONE: to none (STEPS told by asked(), too", () -> {
            CaseCutter x = of("case 0 0 9;range 1000 2000 7 1;case 5000 5 1;");
            dueRun(x, MIN, NONE, 2);
            dueRun(x, -1, NONE, 2);
            dueRun(x, 999, NONE, 2);
            dueRun(x, 2001, NONE, 4);
            dueRun(x, 4999, NONE, 4);
            dueRun(x, 5001, NONE, 3);
            dueRun(x, MAX, NONE, 3);
        });
        sentence(here, "no PARTS: 0).", () -> {
            CaseCutter x = of("case 5 1 1;");
            dueRun(x, 5, 1, 1);
            x.cut(0);
            dueRun(x, 5, NONE, 0);
            dueRun(x, MIN, NONE, 0);
        });
    }

    private static void p24cost() {
        String here = "Promise 24: cost";
        sentence(here, "What THE PLAN costs.", () -> {
            due("of none", of("rest 9;").cost(), 0);
            due("of WEIGHT 0", of("range 0 1 1 0;").cost(), 0);
            CaseCutter x = of("case 0 1 9;");
            due("of a POINT", x.cost(), 9);
            x.add(1000, 1000, 2, 9);
            due("of two", x.cost(), 36);
            x.undo(0);
            due("of one again", x.cost(), 9);
            x.cut(0);
            due("of none again", x.cost(), 0);
        });
        sentence(here + ", behind other calls", "What THE PLAN costs.", () -> {
            CaseCutter x = of("range 1 2 1 3;range 4 5 2 3;");
            due("at first", x.cost(), 18);
            x.keep(0);
            x.aim(1, 1);
            due("behind aim", x.cost(), 12);
            x.weigh(1, 0);
            due("behind weigh", x.cost(), 6);
            x.cut(0);
            due("behind cut", x.cost(), 0);
            x.add(1, 2, 1, 9);
            due("behind add", x.cost(), 18);
            x.undo(1);
            due("behind undo", x.cost(), 12);
            due("on(0)", x.on(0), 0);
            due("behind on", x.cost(), 18);
            // number 1153 adds -24, -23 of AIM 0, WEIGHT 9: 15 and 18, and behind the COMPARISON 18 as before
            due("lots", x.lots(1, seedOf(1153)), 3);
            due("behind lots", x.cost(), 15 + 18 + 18);
            due("program(0)", x.program(0), 2);
            due("behind program", x.cost(), 18);
        });
    }

    private static void p25part() {
        String here = "Promise 25: part";
        sentence(here, "Of a PART: 0 its SORT (1 to 4), 1, 2 the first, the last CASE, 3 DEPTH, 4 STEPS, 5 SPAN", () -> {
            CaseCutter x = of("range -2147483648 -1 1 5;case 0 2 9;range 10 11 1 9;range 40 41 1 9;range 50 2147483647 2 3;");
            duePart(x, 0, LONE, 0, 0, 2, 2, -1);
            duePart(x, 1, POINT, 1, 1, 2, 1, 1);
            duePart(x, 2, MASKED, 2, 3, 2, 2, 32);
            duePart(x, 3, LONE, 4, 4, 2, 2, 2147483598);
            duePart(of(ROW), 0, ROWED, 0, 2, 0, 3, 64);
        });
        sentence(here, "(-1: more than 2147483647), told by asked(): 1.", () -> {
            duePart(of("range 1 2147483647 1 0;"), 0, LONE, 0, 0, 0, 2, 2147483647);
            duePart(of("range 0 2147483647 1 0;"), 0, LONE, 0, 0, 0, 2, -1);
            duePart(of("range -2147483648 -2 1 0;"), 0, LONE, 0, 0, 0, 2, 2147483647);
            duePart(of("range -2147483648 -1 1 0;"), 0, LONE, 0, 0, 0, 2, -1);
            duePart(of("range -2147483648 2147483647 1 0;"), 0, LONE, 0, 0, 0, 2, -1);
        });
        sentence(here, "BAD.", () -> {
            CaseCutter x = furnished();
            allBad(x, "part", new int[] {-1, 2, 12, MIN, MAX}, k -> x.part(k, 0));
            allBad(x, "part, what", new int[] {-1, 6, MIN, MAX}, what -> x.part(0, what));
            CaseCutter none = new CaseCutter();
            refuses(none, "part(0, 0), no PARTS", BAD, () -> none.part(0, 0));
            // a PART that was there till the PLAN became another one
            CaseCutter gone = of("case 0 1 1;case 1000 2 1;");
            duePart(gone, 1, POINT);
            gone.cut(0);
            refuses(gone, "part(1, 0)", BAD, () -> gone.part(1, 0));
        });
    }

    private static void p26mark() {
        String here = "Promise 26: mark";
        sentence(here, "a LONE one (POINT, too) the number that is taken from the selector", () -> {
            CaseCutter x = of("range -2147483648 -1 1 5;case 0 2 9;range 10 2147483646 1 9;case 2147483647 7 9;");
            tells(x, "mark(0, 1)", x.mark(0, 1), MIN);
            tells(x, "mark(1, 1)", x.mark(1, 1), 0);
            tells(x, "mark(2, 1)", x.mark(2, 1), 10);
            tells(x, "mark(3, 1)", x.mark(3, 1), MAX);
        });
        sentence(here, "a ROWED one how many of its SPAN are no CASE's", () -> {
            CaseCutter x = of(ROW);
            tells(x, "the most", x.mark(0, 2), 48);
            x = of("range 0 20 1 0;range 21 40 2 0;range 41 63 3 0;");
            tells(x, "none", x.mark(0, 2), 0);
            x = of("case 0 1 0;case 2 2 0;case 4 3 0;range 5 999 4 9;");
            tells(x, "ahead of another PART", x.mark(0, 2), 2);
        });
        sentence(here, "a MASKED one how many AIMS it has", () -> {
            CaseCutter x = of(MASKS);
            tells(x, "two", x.mark(0, 3), 2);
            x = of("case 0 0 0;case 15 0 0;case 31 0 0;");
            tells(x, "one", x.mark(0, 3), 1);
        });
        sentence(here, "a POINT its AIM; by asked(): 1.", () -> {
            CaseCutter x = of("case 0 0 9;case 1000 7 9;");
            x.mark(1, 1);
            tells(x, "mark(0, 4)", x.mark(0, 4), 0);
            tells(x, "mark(1, 4)", x.mark(1, 4), 7);
        });
        sentence(here, "BAD: also SORT 0", () -> {
            CaseCutter x = furnished();
            allBad(x, "mark of SORT", new int[] {0, -1, 5, MIN, MAX}, sort -> x.mark(0, sort));
            allBad(x, "mark of PART", new int[] {-1, 2, 12, MIN, MAX}, k -> x.mark(k, 1));
            CaseCutter none = new CaseCutter();
            refuses(none, "mark(0, 1), no PARTS", BAD, () -> none.mark(0, 1));
        });
        sentence(here, "UNLIKE.", () -> {
            String[] words = {"range 0 99 1 1;", ROW, MASKS, "case 0 1 1;"};
            for (int own = 1; own <= 4; own++) {
                CaseCutter x = of(words[own - 1]);
                for (int sort = 1; sort <= 4; sort++) {
                    int asked = sort;
                    if (sort != own && !(own == POINT && sort == LONE)) {
                        finds(x, "mark(0, " + sort + ") of SORT " + own, UNLIKE, () -> x.mark(0, asked));
                    } else {
                        due("mark(0, " + sort + ") of SORT " + own, x.mark(0, sort), 1);
                    }
                }
            }
        });
    }

    private static void p27jump() {
        String here = "Promise 27: jump";
        sentence(here, "Place i of the row of a ROWED PART (0: its first LOW): the AIM, 8 for none, told by asked(): 1.", () -> {
            CaseCutter x = of("range -3 3 0 0;range 27 34 2 0;case 60 7 0;");
            int[][] want = {{0, 0}, {6, 0}, {7, 8}, {29, 8}, {30, 2}, {37, 2}, {38, 8}, {62, 8}, {63, 7}};
            for (int[] w : want) {
                tells(x, "jump(0, " + w[0] + ")", x.jump(0, w[0]), w[1]);
            }
            x = of("case 2147483647 1 0;range 2147483640 2147483641 2 0;case 2147483643 3 0;");
            tells(x, "jump to the first", x.jump(0, 0), 2);
            tells(x, "jump to MAX", x.jump(0, 7), 1);
            x = of("case -2147483648 1 0;range -2147483647 -2147483646 2 0;case -2147483644 3 0;");
            tells(x, "jump to MIN", x.jump(0, 0), 1);
            tells(x, "jump between", x.jump(0, 3), 8);
        });
        sentence(here, "BAD", () -> {
            CaseCutter x = of(ROW);
            allBad(x, "jump", new int[] {-1, 1, 12, MIN, MAX}, k -> x.jump(k, 0));
            CaseCutter none = new CaseCutter();
            refuses(none, "jump(0, 0), no PARTS", BAD, () -> none.jump(0, 0));
        });
        sentence(here, "UNLIKE: it is not ROWED", () -> {
            for (String words : new String[] {"range 0 99 1 1;", MASKS, "case 0 1 1;"}) {
                CaseCutter x = of(words);
                finds(x, "jump of " + words, UNLIKE, () -> x.jump(0, 0));
            }
        });
        sentence(here, "BEYOND: i is not within its SPAN.", () -> {
            CaseCutter x = of(ROW);
            for (int i : new int[] {64, -1, MIN, MAX}) {
                finds(x, "jump(0, " + i + ")", BEYOND, () -> x.jump(0, i));
            }
            CaseCutter small = of("case 0 1 0;case 1 2 0;case 2 3 0;");
            tells(small, "jump(0, 2)", small.jump(0, 2), 3);
            finds(small, "jump(0, 3)", BEYOND, () -> small.jump(0, 3));
            CaseCutter atMax = of("case 2147483647 1 0;case 2147483646 2 0;case 2147483645 3 0;");
            finds(atMax, "jump(0, 3) past MAX", BEYOND, () -> atMax.jump(0, 3));
            // the next PART's numbers are not its own
            CaseCutter next = of("case 0 1 0;case 1 2 0;case 2 3 0;range 3 999 4 9;");
            due("count(1)", next.count(1), 2);
            finds(next, "jump(0, 3) to the next PART", BEYOND, () -> next.jump(0, 3));
        });
        sentence(here, "(In this order.)", () -> {
            CaseCutter x = of("case 0 1 1;");
            refuses(x, "jump(1, 99), all three", BAD, () -> x.jump(1, 99));
            finds(x, "jump(0, 99), not ROWED, BEYOND too", UNLIKE, () -> x.jump(0, 99));
            finds(x, "jump(0, -1), not ROWED, BEYOND too", UNLIKE, () -> x.jump(0, -1));
        });
    }

    private static void dueMask(CaseCutter x, int k, int aim, long bits) {
        due("mask(" + k + ", " + aim + ")", x.mask(k, aim), 1);
        due("mask(" + k + ", " + aim + "), then mask0()", x.mask0(), bits);
    }

    private static void p28mask() {
        String here = "Promise 28: mask";
        sentence(here, "The mask of a MASKED PART for an AIM: bit 0 for its first LOW, and so on, told by mask0(): 1.", () -> {
            CaseCutter x = of("case 2147483616 0 0;range 2147483618 2147483619 7 0;case 2147483647 0 0;");
            dueMask(x, 0, 0, 0x80000001L);
            dueMask(x, 0, 7, 12);
            dueMask(x, 0, 1, 0);
            x = of("case -2147483648 3 0;case -2147483617 4 0;");
            dueMask(x, 0, 3, 1);
            dueMask(x, 0, 4, 0x80000000L);
            // all 32 bits: a number above 0
            x = of("range 0 15 3 0;range 16 31 3 0;");
            dueMask(x, 0, 3, 0xFFFFFFFFL);
            // no bits of what is behind the PART
            x = of("range 0 1 1 9;range 4 5 1 9;range 6 999 1 1;");
            dueMask(x, 0, 1, 51);
            due("asked()", x.asked(), 0);
        });
        sentence(here, "BAD", () -> {
            CaseCutter x = furnished();
            allBad(x, "mask of PART", new int[] {-1, 2, 12, MIN, MAX}, k -> x.mask(k, 1));
            allBad(x, "mask of AIM", new int[] {-1, 8, MIN, MAX}, a -> x.mask(0, a));
            CaseCutter none = new CaseCutter();
            refuses(none, "mask(0, 0), no PARTS", BAD, () -> none.mask(0, 0));
        });
        sentence(here, "UNLIKE: it is not MASKED.", () -> {
            for (String words : new String[] {"range 0 9 1 1;", ROW, "case 0 1 1;"}) {
                CaseCutter x = of(words);
                finds(x, "mask of " + words, UNLIKE, () -> x.mask(0, 1));
            }
        });
    }

    private static void p29only() {
        String here = "Promise 29: only";
        sentence(here, "if there were no PARTS but LONE ones (sort 1; POINTS, too)", () -> {
            due("of none", of("rest 9;").only(1), 0);
            due("of a POINT", of("case 0 1 9;").only(1), 9);
            due("of a span", of("range 0 1 1 9;").only(1), 18);
            due("of what would be MASKED", of("range 0 1 1 9;range 30 31 1 9;").only(1), 54);
            due("of what would be ROWED", of("range 0 1 1 9;range 2 3 2 9;range 4 5 3 9;").only(1), 99);
        });
        sentence(here, "those and ROWED ones (2)", () -> {
            due("of none", of("rest 9;").only(2), 0);
            due("of what would be MASKED", of("range 0 1 1 9;range 30 31 1 9;").only(2), 54);
            due("of what would be ROWED", of("range 0 1 1 9;range 2 3 2 9;range 4 5 3 9;").only(2), 81);
            // both could be: MASKED 2 STEPS, ROWED 3
            due("of both", of("range 0 1 1 9;range 2 3 1 9;").only(2), 54);
        });
        sentence(here, "those and MASKED ones (3).", () -> {
            due("of none", of("rest 9;").only(3), 0);
            due("of what would be MASKED", of("range 0 1 1 9;range 30 31 1 9;").only(3), 36);
            due("of what would be ROWED", of("range 0 1 1 9;range 2 3 2 9;range 4 5 3 9;").only(3), 99);
            due("of both", of("range 0 1 1 9;range 2 3 1 9;").only(3), 36);
        });
        sentence(here, "BAD.", () -> {
            CaseCutter x = furnished();
            allBad(x, "only", new int[] {0, 4, -1, MIN, MAX}, x::only);
            due("cost() stays", x.cost(), 20 + 36 + 2);
        });
    }

    private static void p30chain() {
        String here = "Promise 30: chain";
        sentence(here, "each tried costs STEPS of its LONE PART, times its WEIGHT and those of all behind it, and REST.", () -> {
            due("of none", new CaseCutter().chain(), 0);
            due("of none and REST 9", of("rest 9;").chain(), 0);
            due("of WEIGHT 0, REST 0", of("range 5 6 1 0;").chain(), 0);
            due("of WEIGHT 0, REST 9", of("range 5 6 1 0;rest 9;").chain(), 18);
            due("of a POINT", of("case 5 1 9;rest 9;").chain(), 18);
            due("of three", of("case 1 1 1;range 2 3 1 2;case 4 1 3;rest 4;").chain(), 10 + 2 * 9 + 7);
            CaseCutter x = of("rest 9;");
            for (int i = 0; i < 12; i++) {
                x.add(2 * i, 2 * i + 1, 0, 9);
            }
            due("the dearest", x.chain(), 2 * 9 * (13 + 12 + 11 + 10 + 9 + 8 + 7 + 6 + 5 + 4 + 3 + 2));
        });
    }

    private static void p31worst() {
        String here = "Promise 31: worst";
        sentence(here, "The CASE of the greatest STEPS by THE PLAN (the first); these by asked().", () -> {
            CaseCutter x = of("range 0 1 1 1;range 1000 1001 1 1;");
            due("of like ones", x.worst(), 0);
            due("asked()", x.asked(), 3);
            x = withCases(12);
            due("of twelve", x.worst(), 10);
            due("asked()", x.asked(), 12);
            x = of("case 0 1 9;case 1000 2 0;case 1001 2 0;case 1002 3 0;");
            due("the first in a PART of many", x.worst(), 1);
            due("asked()", x.asked(), 4);
            // the last PART, of CASE 3, is number 2
            x = of("range 0 1 1 9;range 30 31 1 9;case 500 3 1;range 999 1000 2 1;");
            due("behind a PART of two", x.worst(), 3);
            due("asked()", x.asked(), 4);
            x = of("case 5 1 1;");
            due("of one", x.worst(), 0);
            due("asked()", x.asked(), 1);
        });
        sentence(here, "STATE: no CASES.", () -> {
            CaseCutter x = furnished();
            x.cut(2);
            x.cut(1);
            due("worst() of one", x.worst(), 0);
            x.cut(0);
            refuses(x, "worst()", STATE, x::worst);
        });
    }

    private static void dueSwing(CaseCutter x, int i, int weight, int parts) {
        due("swing(" + i + ")", x.swing(i), weight);
        due("swing(" + i + "), then asked()", x.asked(), parts);
    }

    private static void p32swing() {
        String here = "Promise 32: swing";
        sentence(here, "The WEIGHT (0 .. 9; the least) other than its own that a CASE would need", () -> {
            // of WEIGHTS a, b: one ROWED PART costs 3 (a + b), two POINTS 2 (a + b): one at 0, 0 alone
            dueSwing(of("case 0 3 0;case 1 4 0;"), 1, 1, 2);
            dueSwing(of("case 0 3 0;case 1 4 5;"), 1, 0, 1);
            // a span (2) and a POINT (1): one PART costs 3 a + 3 b, two 3 a + 2 b: from b = 1 on two are cheaper
            dueSwing(of("range 0 1 3 5;case 2 4 0;"), 1, 1, 2);
            dueSwing(of("range 0 1 3 5;case 2 4 9;"), 1, 0, 1);
            // of WEIGHTS 9, 3, w: one PART costs 36 + 3 w, three 27 + 4 w: at 9 they are like, one is ahead
            dueSwing(of("case 0 2 9;case 1 0 3;range 2 3 1 3;"), 2, 9, 1);
        });
        sentence(here, "so that THE PLAN would have other PARTS (SORTS, first or last CASES); how many PARTS then by asked().", () -> {
            CaseCutter x = of("case 5 1 3;range 7 9 2 4; case 11 1 1;rest 2;");
            long digest = x.digest();
            dueSwing(x, 0, 5, 3);
            due("digest() stays", x.digest(), digest);
            due("cost() stays", x.cost(), 24);
            // as many PARTS, but cut elsewhere: 0, 1 | 2 costs 2 a + 26, 0 | 1, 2 costs a + 34 (and the COMPARISON)
            CaseCutter y = of("case 0 1 2;range 15 17 1 9;case 35 1 8;");
            duePart(y, 0, MASKED, 0, 1);
            dueSwing(y, 0, 8, 2);
            dueSwing(y, 2, 0, 2);
            y.weigh(0, 8);
            duePart(y, 0, POINT, 0, 0);
            duePart(y, 1, MASKED, 1, 2);
            // as many PARTS of the same SORTS: 0, 1 | 2, 3, 4 costs 36 + 3 w, 0, 1, 2 | 3, 4 costs 36 + 2 w
            CaseCutter z = of("range 0 1 1 0;case 4 1 9;range 22 23 1 0;range 33 34 1 5;range 51 52 2 1;");
            duePart(z, 0, MASKED, 0, 1);
            duePart(z, 1, MASKED, 2, 4);
            dueSwing(z, 2, 1, 2);
            z.weigh(2, 1);
            duePart(z, 0, MASKED, 0, 2);
            duePart(z, 1, MASKED, 3, 4);
            // other DEPTHS alone are no other PARTS
            CaseCutter far = of("case 0 1 1;case 1000 2 1;case 2000 3 1;");
            duePart(far, 0, POINT, 0, 0, 1);
            none(far, "swing(2)", () -> far.swing(2));
            far.weigh(2, 9);
            duePart(far, 0, POINT, 0, 0, 2);
        });
        sentence(here, "NONE: there is none.", () -> {
            CaseCutter x = of("case 0 1 9;");
            x.told(0, 3);
            none(x, "swing(0) of one CASE", () -> x.swing(0));
            CaseCutter twelve = withCases(12);
            none(twelve, "swing(11) of twelve", () -> twelve.swing(11));
            // of WEIGHTS 6, 3, w: one PART costs 27 + 3 w, two 36 + 2 w: from 10 on two would be cheaper
            CaseCutter ten = of("range 0 1 2 6;range 2 3 1 3;case 4 0 8;");
            none(ten, "swing(2), 10 would be needed", () -> ten.swing(2));
        });
        sentence(here, "BAD.", () -> {
            CaseCutter x = furnished();
            allBad(x, "swing", new int[] {-1, 3, 12, MIN, MAX}, x::swing);
            CaseCutter none = new CaseCutter();
            refuses(none, "swing(0), no CASES", BAD, () -> none.swing(0));
        });
    }

    private static void p33covered() {
        String here = "Promise 33: covered";
        sentence(here, "How many numbers from low to high (both, too) are CASES'.", () -> {
            CaseCutter x = of("range -2147483648 -1 1 5;case 0 2 9;range 10 11 1 9;case 2147483647 0 0;");
            due("all", x.covered(MIN, MAX), (1L << 31) + 4);
            due("covered(-1, 10)", x.covered(-1, 10), 3);
            due("covered(1, 9)", x.covered(1, 9), 0);
            due("covered(0, 0)", x.covered(0, 0), 1);
            due("covered(11, 11)", x.covered(11, 11), 1);
            due("covered(MAX, MAX)", x.covered(MAX, MAX), 1);
            due("covered(MIN, MIN)", x.covered(MIN, MIN), 1);
            due("all of all", of("range -2147483648 2147483647 1 0;").covered(MIN, MAX), 1L << 32);
            due("half of all", of("range -2147483648 2147483647 1 0;").covered(0, MAX), 1L << 31);
            due("of no CASES", new CaseCutter().covered(MIN, MAX), 0);
        });
        sentence(here, "BAD: -1, low above high.", () -> {
            CaseCutter x = furnished();
            refuses(x, "covered(1, 0)", -1, () -> x.covered(1, 0));
            refuses(x, "covered(MAX, MIN)", -1, () -> x.covered(MAX, MIN));
            refuses(x, "covered(MIN + 1, MIN)", -1, () -> x.covered(MIN + 1, MIN));
        });
    }

    private static void p34lots() {
        String here = "Promise 34: lots";
        sentence(here, "n (1 .. 20) DEEDS truly by LOTS of a seed", () -> {
            CaseCutter x = new CaseCutter();
            due("lots(1, 1) below 0", Math.min(x.lots(1, 1), 0), 0);
            due("count(8)", x.count(8), 1);
            due("lots(20, 1) below 0", Math.min(x.lots(20, 1), 0), 0);
            due("count(8)", x.count(8), 21);
            due("undo(1)", x.undo(1), 20);
            allBad(x, "lots of n", new int[] {0, 21, -1, MIN, MAX}, n -> x.lots(n, 1));
        });
        sentence(here, "a number comes from the one ahead by 48271 times it modulo 2147483647", () -> {
            // the greatest number: 2147483646 modulo 4 is 2; 536870911 modulo 48 is 31; 8388607 modulo 3 is 1;
            // 134217727 modulo 8 is 7; 16777215 modulo 10 is 5
            CaseCutter x = new CaseCutter();
            due("lots of the greatest number", x.lots(1, seedOf(2147483646)), 1);
            dueCase(x, 0, 7, 8, 7, 5);
            // the least: all 0 but LOW
            CaseCutter y = new CaseCutter();
            due("lots of the least number", y.lots(1, seedOf(1)), 1);
            dueCase(y, 0, -24, -24, 0, 0);
            // from 1 comes 48271, from that 182605794 (by 4: 45651448, by 16: 11412862, by 128: 1426607, by 256: 713303)
            CaseCutter z = new CaseCutter();
            due("lots(2, 1)", z.lots(2, 1), 2);
            dueCase(z, 0, -5, -3, 0, 7);
            dueCase(z, 1, 16, 18, 6, 7);
            // two by one are as one and one
            CaseCutter w = new CaseCutter();
            w.lots(1, 1);
            w.lots(1, 48271);
            due("digest() of one and one", w.digest(), z.digest());
        });
        sentence(here, "the first from the seed (1 .. 2147483646)", () -> {
            CaseCutter x = new CaseCutter();
            due("lots(1, 1)", x.lots(1, 1), 1);
            // 2147483647 less 48271 is 4 times 536858844: a CASE is CUT
            due("lots(1, 2147483646)", x.lots(1, 2147483646), 0);
            allBad(x, "lots of seed", new int[] {0, MAX, -1, MIN}, seed -> x.lots(1, seed));
        });
        sentence(here, "if it modulo 4 is 0, a CASE (it by 4, cut, modulo how many there are) is CUT", () -> {
            for (int lot : new int[] {1, 2, 3, 4, 536870911}) {
                CaseCutter x = of("case 100 0 0;case 200 1 0;case 300 2 0;case 400 3 0;");
                due("lots", x.lots(1, seedOf(4L * lot)), 3);
                due("reach of the one that is CUT", x.reach(100 * (lot % 4 + 1)), NONE);
                due("undo(0)", x.undo(0), 1);
                due("reach of it again", x.reach(100 * (lot % 4 + 1)), lot % 4);
            }
        });
        sentence(here, "if there are some (none: nothing)", () -> {
            CaseCutter x = of("rest 9;");
            due("lots", x.lots(1, seedOf(4)), 0);
            due("count(8), a DEED of nothing", x.count(8), 1);
            due("undo(0)", x.undo(0), 1);
            due("count(0)", x.count(0), 0);
        });
        sentence(here, "if it is not 0, one is ADDED", () -> {
            for (int number : new int[] {1, 2, 3, 5, 2147483645, 2147483646}) {
                CaseCutter x = of("rest 9;");
                due("lots of " + number, x.lots(1, seedOf(number)), 1);
                due("undo(0)", x.undo(0), 1);
                due("count(0)", x.count(0), 0);
            }
        });
        sentence(here, "LOW (it by 4, cut) modulo 48 less 24, HIGH (it by 256, cut) modulo 3 more than LOW,"
                + " AIM (it by 16, cut) modulo 8, WEIGHT (it by 128, cut) modulo 10", () -> {
            // the number, then LOW, HIGH, AIM, WEIGHT
            int[][] lots = {{1, -24, -24, 0, 0}, {3, -24, -24, 0, 0}, {5, -23, -23, 0, 0}, {18, -20, -20, 1, 0}, {37, -15, -15, 2, 0},
                {63, -9, -9, 3, 0}, {66, -8, -8, 4, 0}, {1023, -9, -9, 7, 7}, {1025, -8, -7, 0, 8}, {1153, -24, -23, 0, 9},
                {1341, 23, 25, 3, 0}, {1345, -24, -22, 4, 0}, {2493, 23, 23, 3, 9}, {3837, 23, 25, 7, 9},
                {2147483643, 6, 7, 7, 5}, {2147483645, 7, 8, 7, 5}, {2147483646, 7, 8, 7, 5}};
            for (int[] lot : lots) {
                CaseCutter x = new CaseCutter();
                due("lots of " + lot[0], x.lots(1, seedOf(lot[0])), 1);
                dueCase(x, 0, lot[1], lot[2], lot[3], lot[4]);
            }
        });
        sentence(here, "if it can be; what can't be is a DEED of nothing: how many CASES.", () -> {
            // number 1 adds -24: it is another CASE's
            CaseCutter x = of("range -30 -24 1 1;");
            due("lots of another CASE's", x.lots(1, seedOf(1)), 1);
            due("count(8)", x.count(8), 1);
            dueCase(x, 0, -30, -24, 1, 1);
            due("undo(0)", x.undo(0), 1);
            dueCase(x, 0, -30, -24, 1, 1);
            CaseCutter twelve = withCases(12);
            due("lots of a 13th", twelve.lots(1, seedOf(1)), 12);
            due("count(8)", twelve.count(8), 13);
            due("undo(12)", twelve.undo(12), 1);
            due("count(0)", twelve.count(0), 12);
            CaseCutter eleven = withCases(11);
            due("lots of a 12th", eleven.lots(1, seedOf(1)), 12);
            // in the place of a DEED that was one and is undone
            x.add(-50, -50, 0, 0);
            x.undo(0);
            x.lots(1, seedOf(1));
            due("undo(0) of nothing", x.undo(0), 1);
            dueCase(x, 0, -30, -24, 1, 1);
        });
        sentence(here, "BAD", () -> {
            CaseCutter x = furnished();
            allBad(x, "lots of n", new int[] {0, 21, -1, MIN, MAX}, n -> x.lots(n, 1));
            allBad(x, "lots of seed", new int[] {0, MAX, -1, MIN}, seed -> x.lots(20, seed));
        });
        sentence(here, "FULL: with n more there would be more than 40 DEEDS.", () -> {
            CaseCutter x = withDeeds(20);
            due("20 to 40 below 0", Math.min(x.lots(20, 7), 0), 0);
            due("count(8)", x.count(8), 40);
            refuses(x, "lots(1, 7) at 40", FULL, () -> x.lots(1, 7));
            x.undo(21);
            refuses(x, "lots(20, 7) at 21", FULL, () -> x.lots(20, 7));
            due("lots(19, 7) at 21 below 0", Math.min(x.lots(19, 7), 0), 0);
            refuses(x, "lots(20, 7) at 40", FULL, () -> x.lots(20, 7));
        });
    }

    private static void p35asked() {
        String here = "Promise 35: asked";
        sentence(here, "What the latest lay(), at(), mean(), hash(), told(), reach(), run(), part(), mark(), jump(), worst(), swing()", () -> {
            CaseCutter x = of("case 0 3 9;range 1000 2000 4 1;case 5000 5 1;");
            x.row(0, 1);
            x.worst();
            tells(x, "lay", x.lay(0, 0, 4), 0);
            tells(x, "at", x.at(0, 0), 4);
            x.lay(0, 0, 1);
            tells(x, "hash", x.hash(0), 98);
            tells(x, "mean", x.mean(0), 1);
            tells(x, "told", x.told(0, 3), 9);
            due("reach", x.reach(5000), 5);
            due("reach, then asked()", x.asked(), 2);
            dueRun(x, 1000, 4, 4);
            tells(x, "part", x.part(1, 1), 1);
            tells(x, "mark", x.mark(0, 4), 3);
            due("worst", x.worst(), 1);
            due("worst, then asked()", x.asked(), 4);
            CaseCutter y = of("case 0 1 0;case 1 2 0;case 2 7 0;");
            tells(y, "jump", y.jump(0, 2), 7);
            dueSwing(y, 2, 1, 2);
        });
        sentence(here, "that was not refused (nor answered NONE, but by run()) told", () -> {
            CaseCutter x = furnished();
            x.told(1, 0);
            x.at(6, 0);
            x.lay(0, 9, 1);
            x.mean(1);
            x.hash(0);
            x.told(9, 0);
            x.part(9, 0);
            x.mark(0, 0);
            x.jump(0, 0);
            x.swing(9);
            due("asked(), what is refused", x.asked(), 30);
            due("reach(50)", x.reach(50), NONE);
            due("asked()", x.asked(), 30);
            CaseCutter y = of("case 7 1 9;");
            y.told(0, 0);
            due("swing(0)", y.swing(0), NONE);
            due("asked()", y.asked(), 7);
            dueRun(y, 8, NONE, 1);
            y.cut(0);
            due("worst()", y.worst(), STATE);
            due("asked()", y.asked(), 1);
            dueRun(y, 8, NONE, 0);
        });
        sentence(here + ", other calls leave it", "What the latest", () -> {
            CaseCutter x = furnished();
            x.told(1, 0);
            x.row(3, 2);
            x.tear(3);
            x.copy(0, 0, 0, 1, 1);
            x.text(2, 3);
            x.put(2, 0, 65);
            x.fault(0);
            x.write(2);
            x.add(50, 50, 0, 0);
            x.cut(2);
            x.aim(0, 6);
            x.weigh(0, 1);
            x.undo(2);
            x.keep(2);
            x.on(2);
            x.cost();
            x.mask(0, 1);
            x.only(2);
            x.chain();
            x.covered(0, 99);
            x.lots(3, 3);
            x.mask0();
            x.count(0);
            x.finding();
            x.findings(1);
            x.digest();
            x.program(0);
            due("asked()", x.asked(), 30);
        });
        sentence(here, "0 before.", () -> {
            CaseCutter x = of("case 7 1 9;");
            x.row(0, 1);
            x.cost();
            x.at(0, 1);
            x.reach(0);
            due("asked()", x.asked(), 0);
            due("asked()", new CaseCutter().asked(), 0);
        });
    }

    private static void p36mask0() {
        String here = "Promise 36: mask0";
        sentence(here, "The mask that was told last", () -> {
            CaseCutter x = of(MASKS);
            dueMask(x, 0, 1, 1);
            dueMask(x, 0, 2, 1L << 31);
            x.mask(0, 8);
            x.mask(1, 1);
            x.cut(0);
            x.mask(0, 2);
            due("mask0(), what is refused", x.mask0(), 1L << 31);
            x.undo(0);
            dueMask(x, 0, 0, 0);
        });
        sentence(here, "0 before.", () -> {
            CaseCutter x = of(MASKS);
            x.mask(0, 8);
            x.part(0, 0);
            due("mask0()", x.mask0(), 0);
            due("mask0()", new CaseCutter().mask0(), 0);
        });
    }

    private static void p37count() {
        String here = "Promise 37: count";
        sentence(here, "0 CASES, 1 PARTS, 2 COMPARISONS of THE PLAN, 3 all WEIGHTS and REST, 4 LONE PARTS (POINTS, too), 5 ROWED,"
                + " 6 MASKED, 7 REST, 8 DEEDS, 9 ROWS, 10 TEXTS that are there, 11 kept PROGRAMS.", () -> {
            CaseCutter x = of("range -2147483648 -1 1 5;case 0 2 9;range 10 11 1 9;range 40 41 1 9;range 50 2147483647 2 3;rest 4;");
            x.row(2, 4);
            x.row(3, 0);
            x.text(3, 0);
            x.keep(1);
            x.aim(0, 3);
            int[] want = {5, 4, 3, 39, 3, 0, 1, 4, 1, 2, 2, 1};
            for (int what = 0; what < 12; what++) {
                due("count(" + what + ")", x.count(what), want[what]);
            }
            due("count(5) of a row", of(ROW).count(5), 1);
            due("count(2) of none", new CaseCutter().count(2), 0);
        });
        sentence(here, "BAD.", () -> {
            CaseCutter x = furnished();
            allBad(x, "count", new int[] {-1, 12, MIN, MAX}, x::count);
        });
    }

    private static void p38finding() {
        String here = "Promise 38: finding";
        sentence(here, "The latest FINDING", () -> {
            CaseCutter x = of("case 0 1 1;");
            x.at(0, 0);
            due("finding()", x.finding(), NOTHING);
            x.row(0, 0);
            x.at(0, 0);
            due("finding()", x.finding(), BEYOND);
            x.jump(0, 0);
            due("finding()", x.finding(), UNLIKE);
            x.mean(0);
            due("finding()", x.finding(), NOUGHT);
            x.row(0, -1);
            due("finding()", x.finding(), SIZE);
            x.at(1, 0);
            due("finding() again", x.finding(), NOTHING);
            x.row(0, 1);
            x.at(0, 0);
            x.at(9, 0);
            x.add(0, 0, 0, 0);
            due("finding(), still", x.finding(), NOTHING);
        });
        sentence(here, "(0 before any).", () -> {
            CaseCutter x = new CaseCutter();
            due("finding()", x.finding(), 0);
            x.at(9, 0);
            x.worst();
            x.reach(0);
            due("finding()", x.finding(), 0);
        });
    }

    private static void p39findings() {
        String here = "Promise 39: findings";
        sentence(here, "How often a FINDING (1 .. 5) was answered.", () -> {
            CaseCutter x = of("case 0 1 1;");
            x.row(0, 0);
            for (int f = 1; f <= 5; f++) {
                due("findings(" + f + ")", x.findings(f), 0);
                for (int times = 0; times < f; times++) {
                    int answer = f == 1 ? x.on(0) : f == 2 ? x.at(0, 0) : f == 3 ? x.jump(0, 0) : f == 4 ? x.mean(0) : x.text(0, -1);
                    due("FINDING " + f, answer, FINDING);
                }
            }
            for (int f = 1; f <= 5; f++) {
                due("findings(" + f + ")", x.findings(f), f);
            }
        });
        sentence(here, "BAD.", () -> {
            CaseCutter x = furnished();
            allBad(x, "findings", new int[] {0, 6, -1, MIN, MAX}, x::findings);
        });
    }

    private static long digestOf(long... values) {
        long h = 17;
        for (long v : values) {
            h = 31 * h + v;
        }
        return h;
    }

    private static void p40digest() {
        String here = "Promise 40: digest";
        sentence(here, "h = 17; then h = 31 h + v for each v: count() 0 to 11", () -> {
            due("of a new object", new CaseCutter().digest(), digestOf(0, 0, 0, 0, 0, 0, 0, 0, 0, 0, 0, 0,
                    -1, -1, -1, -1, -1, -1, -1, -1, -1, -1, -1, -1, -1));
        });
        sentence(here, "of each CASE told() 0 to 3; of each PART part() 0 to 4", () -> {
            CaseCutter x = of("range -2147483648 2147483647 7 9;");
            x.text(0, 0);
            due("of one", x.digest(), digestOf(1, 1, 0, 9, 1, 0, 0, 0, 0, 0, 1, 0, MIN, MAX, 7, 9, 1, 0, 0, 0, 2,
                    -1, -1, -1, -1, -1, -1, -1, -1, -1, 0, -1, -1, -1));
            CaseCutter y = of("case 0 1 1;case 1000 2 1;");
            y.text(0, 0);
            due("of two", y.digest(), digestOf(2, 2, 1, 2, 2, 0, 0, 0, 0, 0, 1, 0, 0, 0, 1, 1, 1000, 1000, 2, 1,
                    4, 0, 0, 1, 1, 4, 1, 1, 1, 1, -1, -1, -1, -1, -1, -1, -1, -1, -1, 0, -1, -1, -1));
        });
        sentence(here, "of each kept PROGRAM how many DEEDS (-1: missing)", () -> {
            CaseCutter x = new CaseCutter();
            x.keep(0);
            x.add(0, 0, 0, 0);
            x.cut(0);
            x.keep(2);
            x.undo(0);
            due("digest()", x.digest(), digestOf(0, 0, 0, 0, 0, 0, 0, 0, 0, 0, 0, 2,
                    0, -1, 2, -1, -1, -1, -1, -1, -1, -1, -1, -1, -1));
        });
        sentence(here, "of each ROW its size (-1: missing) and places", () -> {
            CaseCutter x = new CaseCutter();
            x.row(0, 0);
            x.row(5, 2);
            x.lay(5, 0, MIN);
            x.lay(5, 1, MAX);
            due("digest()", x.digest(), digestOf(0, 0, 0, 0, 0, 0, 0, 0, 0, 2, 0, 0,
                    -1, -1, -1, 0, -1, -1, -1, -1, 2, MIN, MAX, -1, -1, -1, -1));
            x.tear(0);
            due("digest() behind tear(0)", x.digest(), digestOf(0, 0, 0, 0, 0, 0, 0, 0, 0, 1, 0, 0,
                    -1, -1, -1, -1, -1, -1, -1, -1, 2, MIN, MAX, -1, -1, -1, -1));
        });
        sentence(here, "of each TEXT likewise.", () -> {
            CaseCutter x = new CaseCutter();
            x.text(1, 0);
            x.text(3, 3);
            x.put(3, 0, 255);
            x.put(3, 1, 128);
            due("digest()", x.digest(), digestOf(0, 0, 0, 0, 0, 0, 0, 0, 0, 0, 2, 0,
                    -1, -1, -1, -1, -1, -1, -1, -1, -1, -1, 0, -1, 3, -1, -128, 32));
        });
    }

    private static void rowsTextsPrograms() {
        p01newObject();
        p02row();
        p03lay();
        p04at();
        p05tear();
        p06copy();
        p07mean();
        p08text();
        p09put();
        p10fault();
        p11program();
        p12write();
        p13hash();
        p14told();
    }

    private static void deeds() {
        p15add();
        p16cut();
        p17aim();
        p18weigh();
        p19undo();
        p20keep();
        p21on();
    }

    private static void plan() {
        p22reach();
        p23run();
        p24cost();
        p25part();
        p26mark();
        p27jump();
        p28mask();
        p29only();
        p30chain();
        p31worst();
        p32swing();
        p33covered();
    }

    private static void lotsAndWhatIsTold() {
        p34lots();
        p35asked();
        p36mask0();
        p37count();
        p38finding();
        p39findings();
        p40digest();
    }

    public static void main(String[] args) {
        rowsTextsPrograms();
        deeds();
        plan();
        lotsAndWhatIsTold();
        end();
    }
}
