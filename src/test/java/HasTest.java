/** Promises 6 to 10: what there is, names, beings, cells, what is KEPT. */
public final class HasTest {
    private static final String CHAIN = "folio 4 cells 3;gloss 0 1;gloss 3 0;worm 0 3 1;"
            + "being zoe on 0 at 0 trade 4;being bartek on 1 at 2 trade 0;being c on 2 at 0 trade 9;"
            + "being d on 3 at 2 trade 1;opens day+4;";

    public static void main(String[] args) {
        counts();
        letters();
        beings();
        cells();
        kept();
        Check.finish();
    }

    private static void counts() {
        Check run = Check.of("6 has", CHAIN);
        long[] want = {4, 3, 2, 1, 4, 0, 4, 20, 0, 0, 0};
        for (int what = 0; what < want.length; what++) {
            run.due("has(" + what + ")", run.folk.has(what), want[what]);
        }
        run.due("has(11)", run.folk.has(11), -1);
        run.due("has(-1)", run.folk.has(-1), -1);
        run.due("gloss(2, 2)", run.folk.gloss(2, 2), 100);
        run.due("has(2)", run.folk.has(2), 3);
        run.due("days(1): three pairs", run.folk.days(1), 3);
        run.due("has(5)", run.folk.has(5), 1);
        run.due("has(6): 5 modulo 5", run.folk.has(6), 0);
        run.due("has(7): tolls move, cells 0 2 0 2 are reaped", run.folk.has(7), 24);
        run.due("has(8)", run.folk.has(8), 3);
        run.due("has(10)", run.folk.has(10), 2);
        run.tape(0, 0, 1, 1);
        run.due("see()", run.folk.see(), 2);
        run.due("has(9)", run.folk.has(9), 2);
        Check below = Check.of("6 an OPENING below 0", "folio 4 cells 3;opens 0-1;");
        below.due("has(6)", below.folk.has(6), 4);
        Check without = Check.of("6 no opens", "folio 4 cells 3;");
        without.due("has(6)", without.folk.has(6), 0);
    }

    private static void letters() {
        Check run = Check.of("7 letter", CHAIN);
        int[] zoe = {26, 15, 5, 0, 0, 0};
        int[] bartek = {2, 1, 18, 20, 5, 11};
        for (int k = 0; k < 6; k++) {
            run.due("letter(0, " + k + ")", run.folk.letter(0, k), zoe[k]);
            run.due("letter(1, " + k + ")", run.folk.letter(1, k), bartek[k]);
        }
        run.due("letter(0, 6)", run.folk.letter(0, 6), -1);
        run.due("letter(0, -1)", run.folk.letter(0, -1), -1);
        run.due("letter(4, 0)", run.folk.letter(4, 0), -1);
        run.due("letter(-1, 0)", run.folk.letter(-1, 0), -1);
    }

    private static void beings() {
        Check run = Check.of("8 being", CHAIN);
        int[][] want = {{0, 0, 4, 5, 0, 0}, {1, 2, 0, 5, 0, 0}, {2, 0, 9, 5, 0, 0}, {3, 2, 1, 5, 0, 1}};
        for (int k = 0; k < want.length; k++) {
            for (int what = 0; what < 6; what++) {
                run.due("being(" + k + ", " + what + ")", run.folk.being(k, what), want[k][what]);
            }
        }
        run.due("being(0, 6)", run.folk.being(0, 6), -1);
        run.due("being(0, -1)", run.folk.being(0, -1), -1);
        run.due("being(4, 0)", run.folk.being(4, 0), -1);
        run.due("being(-1, 0)", run.folk.being(-1, 0), -1);
        run.folk.days(1);
        run.due("being(1, 4) MET two", run.folk.being(1, 4), 2);
        run.due("being(1, 3) 5 + 1 - 1 + 2", run.folk.being(1, 3), 7);
        run.due("being(0, 5) at OPENING 0", run.folk.being(0, 5), 1);
        run.due("being(1, 5) at OPENING 0", run.folk.being(1, 5), 0);
    }

    private static void cells() {
        Check run = Check.of("9 cell", CHAIN);
        run.due("cell(0, 1, 0)", run.folk.cell(0, 1, 0), 1);
        run.due("cell(0, 0, 0)", run.folk.cell(0, 0, 0), 0);
        run.due("cell(2, 0, 1)", run.folk.cell(2, 0, 1), 2);
        run.due("cell(2, 1, 1)", run.folk.cell(2, 1, 1), -1);
        int[] leaf = {1, 0, 1, 2};
        for (int k = 0; k < 4; k++) {
            run.due("cell(" + k + ", 0, 2) at OPENING 4", run.folk.cell(k, 0, 2), leaf[k]);
            run.due("cell(" + k + ", 0, 3) at OPENING 4", run.folk.cell(k, 0, 3), 2);
            run.due("cell(" + k + ", 1, 3) at OPENING 4", run.folk.cell(k, 1, 3), 1);
        }
        run.due("cell(4, 0, 0)", run.folk.cell(4, 0, 0), -1);
        run.due("cell(-1, 0, 0)", run.folk.cell(-1, 0, 0), -1);
        run.due("cell(0, 3, 0)", run.folk.cell(0, 3, 0), -1);
        run.due("cell(0, -1, 0)", run.folk.cell(0, -1, 0), -1);
        run.due("cell(0, 0, 4)", run.folk.cell(0, 0, 4), -1);
        run.due("cell(0, 0, -1)", run.folk.cell(0, 0, -1), -1);
        int[][] by = {{-1, 2, 1, 2}, {-1, -1, 3, 2}, {1, 0, -1, -1}, {1, 0, 1, -1}};
        for (int opening = 0; opening < by.length; opening++) {
            Check at = Check.of("9 cell at OPENING " + opening, "folio 4 cells 3;opens " + opening + ";");
            for (int k = 0; k < 4; k++) {
                at.due("cell(" + k + ", 0, 2)", at.folk.cell(k, 0, 2), by[opening][k]);
                at.due("cell(" + k + ", 2, 3)", at.folk.cell(k, 2, 3), by[opening][k] < 0 ? -1 : 0);
            }
        }
    }

    private static void kept() {
        Check run = Check.of("10 kept", CHAIN);
        run.due("kept(0, 0)", run.folk.kept(0, 0), -1);
        run.folk.days(2);
        int[][] want = {{0, 0, 1}, {0, 1, 2}, {0, 2, 3}, {1, 1, 2}, {1, 2, 3}};
        run.due("has(8)", run.folk.has(8), want.length);
        for (int k = 0; k < want.length; k++) {
            for (int what = 0; what < 3; what++) {
                run.due("kept(" + k + ", " + what + ")", run.folk.kept(k, what), want[k][what]);
            }
        }
        run.due("kept(5, 0)", run.folk.kept(5, 0), -1);
        run.due("kept(-1, 0)", run.folk.kept(-1, 0), -1);
        run.due("kept(0, 3)", run.folk.kept(0, 3), -1);
        run.due("kept(0, -1)", run.folk.kept(0, -1), -1);
        Check many = Check.of("10 the last 40", "folio 2 cells 2;opens 2;being a on 1 at 1 trade 0;being b on 0 at 0 trade 0;");
        many.due("days(39)", many.folk.days(39), 39);
        many.due("has(8)", many.folk.has(8), 39);
        many.due("days(100)", many.folk.days(100), 100);
        many.due("has(8)", many.folk.has(8), 40);
        many.due("kept(0, 0)", many.folk.kept(0, 0), 99);
        many.due("kept(39, 0)", many.folk.kept(39, 0), 138);
        many.due("kept(39, 1)", many.folk.kept(39, 1), 0);
        many.due("kept(39, 2)", many.folk.kept(39, 2), 1);
        many.due("kept(40, 0)", many.folk.kept(40, 0), -1);
        many.due("undo()", many.folk.undo(), true);
        many.due("has(8) behind undo()", many.folk.has(8), 39);
        many.due("kept(0, 0) behind undo()", many.folk.kept(0, 0), 0);
        many.due("kept(38, 0) behind undo()", many.folk.kept(38, 0), 38);
    }
}
