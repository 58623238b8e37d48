/** Promises 15 to 17: what comes later, openings, ways. */
public final class AheadTest {
    private static final String PAIR = "folio 2 cells 4;opens 2;being a on 0 at 0 trade 3;being b on 1 at 3 trade 1;";

    public static void main(String[] args) {
        later();
        tolls();
        corn();
        steps();
        sums();
        openings();
        ways();
        lastDays();
        Check.finish();
    }

    private static void after(Check run, int being, int n, int cell, int purse, int met) {
        String call = "later(" + being + ", " + n + ", ";
        run.due(call + "0)", run.folk.later(being, n, 0), cell);
        run.due(call + "1)", run.folk.later(being, n, 1), purse);
        run.due(call + "2)", run.folk.later(being, n, 2), met);
    }

    private static void later() {
        Check run = Check.of("15 later", PAIR);
        after(run, 0, 0, 0, 5, 0);
        after(run, 0, 1, 0, 4, 1);
        after(run, 1, 1, 3, 9, 1);
        after(run, 0, 5, 0, 0, 5);
        after(run, 1, 5, 3, 25, 5);
        after(run, 1, 6, 3, 28, 6);
        after(run, 0, 60, 0, 0, 60);
        after(run, 1, 60, 3, 190, 60);
        run.due("later(0, 61, 0)", run.folk.later(0, 61, 0), -1);
        run.due("later(0, -1, 0)", run.folk.later(0, -1, 0), -1);
        run.due("later(2, 1, 0)", run.folk.later(2, 1, 0), -1);
        run.due("later(-1, 1, 0)", run.folk.later(-1, 1, 0), -1);
        run.due("later(0, 1, 3)", run.folk.later(0, 1, 3), -1);
        run.due("later(0, 1, -1)", run.folk.later(0, 1, -1), -1);
        run.due("all stays", run.folk.has(5), 0);
        run.due("all stays", run.folk.has(8), 0);
        run.due("all stays", run.folk.being(0, 3), 5);
        run.due("days(3)", run.folk.days(3), 3);
        after(run, 1, 2, 3, 25, 2);
        Check thumbs = Check.of("15 without DRAWS", PAIR + "thumb 100;");
        after(thumbs, 1, 5, 3, 25, 5);
    }

    private static void tolls() {
        Check below = Check.of("15 a toll below 0", PAIR + "toll 0-7;");
        after(below, 0, 1, 0, 10, 1);
        after(below, 1, 1, 3, 3, 1);
        after(below, 0, 2, 0, 13, 2);
        after(below, 1, 2, 3, 3, 2);
        Check parts = Check.of("15 PARTS of a toll", PAIR + "corn 0;toll other*2+trade/3+leaf*9+cell*9+open*9+purse-5+day*9;");
        after(parts, 0, 1, 0, 2, 1);
        after(parts, 1, 1, 3, 8, 1);
        Check two = Check.of("15 pair by pair", "folio 3 cells 3;opens 3;being m on 1 at 1 trade 0;"
                + "being a on 0 at 1 trade 0;being z on 2 at 1 trade 0;corn 0;toll purse-1;");
        after(two, 0, 1, 1, 1, 2);
        after(two, 1, 1, 1, 9, 1);
        after(two, 2, 1, 1, 5, 1);
        Check full = Check.of("15 full purses", PAIR);
        full.tape(Check.sealed(0, 0, 0, 0, 0, 0, 0, 5, 0x27, 0x0f, 1, 3, 0x27, 0x0e, 0x27, 0x0f));
        full.due("on()", full.folk.on(), true);
        after(full, 0, 1, 0, 4, 1);
        after(full, 1, 1, 3, 9999, 1);
        full.due("days(1)", full.folk.days(1), 1);
        full.due("being(0, 4) MET 9999 at most", full.folk.being(0, 4), 9999);
        full.due("being(1, 4) MET 9999 at most", full.folk.being(1, 4), 9999);
        full.due("being(1, 3)", full.folk.being(1, 3), 9999);
    }

    private static void corn() {
        Check much = Check.of("15 corn is cut", "folio 1 cells 3;being a on 0 at 2 trade 0;corn 500;");
        after(much, 0, 1, 2, 104, 0);
        Check little = Check.of("15 corn is cut", "folio 1 cells 3;being a on 0 at 2 trade 0;corn 400-day*1000;");
        after(little, 0, 1, 2, 104, 0);
        after(little, 0, 2, 2, 5, 0);
        after(little, 0, 3, 2, 0, 0);
        Check cell = Check.of("15 cell without corn", "folio 1 cells 3;being a on 0 at 2 trade 0;");
        after(cell, 0, 3, 2, 11, 0);
        Check parts = Check.of("15 PARTS of corn", "folio 3 cells 4;gloss 0 0;being a on 2 at 3 trade 7;opens 2;"
                + "corn leaf*1+cell*2+trade*3+purse*4-open*50+day;");
        after(parts, 0, 1, 3, 4, 0);
    }

    private static void steps() {
        Check all = Check.of("15 steps", "folio 1 cells 5;gloss 0 4;being a on 0 at 0 trade 0;being b on 0 at 1 trade 0;steps all;corn 0;");
        after(all, 0, 1, 0, 5, 0);
        after(all, 1, 1, 2, 5, 0);
        after(all, 0, 2, 1, 5, 0);
        after(all, 1, 2, 3, 5, 0);
        after(all, 0, 3, 2, 5, 0);
        after(all, 1, 3, 3, 5, 0);
        after(all, 0, 9, 2, 5, 0);
        Check other = Check.of("15 steps, the outer one first", "folio 1 cells 4;being a on 0 at 1 trade 0;being b on 0 at 0 trade 0;steps all;corn 0;");
        after(other, 0, 1, 2, 5, 0);
        after(other, 1, 1, 1, 5, 0);
        after(other, 0, 5, 3, 5, 0);
        after(other, 1, 5, 2, 5, 0);
        Check reaped = Check.of("15 steps behind corn", "folio 1 cells 4;being a on 0 at 0 trade 0;steps purse>5;corn 1;");
        after(reaped, 0, 1, 1, 6, 0);
        Check days = Check.of("15 steps by DAY", "folio 1 cells 4;being a on 0 at 0 trade 0;steps day=1 or day=3;corn 0;");
        after(days, 0, 1, 0, 5, 0);
        after(days, 0, 2, 1, 5, 0);
        after(days, 0, 3, 1, 5, 0);
        after(days, 0, 4, 2, 5, 0);
        Check open = Check.of("15 steps of open LEAVES", "folio 3 cells 4;opens day;corn 0;steps open=1;"
                + "being a on 0 at 0 trade 0;being b on 1 at 0 trade 0;being c on 2 at 0 trade 0;");
        int[][] cells = {{1, 0, 0}, {2, 1, 0}, {2, 2, 1}, {2, 2, 2}, {3, 2, 2}};
        for (int n = 1; n <= cells.length; n++) {
            for (int k = 0; k < 3; k++) {
                open.due("later(" + k + ", " + n + ", 0)", open.folk.later(k, n, 0), cells[n - 1][k]);
            }
        }
        Check never = Check.of("15 no steps", "folio 1 cells 4;being a on 0 at 0 trade 0;");
        after(never, 0, 60, 0, 5, 0);
    }

    /** A SUM's value seen as an OPENING: modulo 7 of 6 LEAVES. */
    private static void sum(String text, long value) {
        Check run = Check.of("16 " + text, "folio 6 cells 2;opens " + text + ";");
        run.due("opening(0)", run.folk.opening(0), Math.floorMod(value, 7L));
    }

    private static void sums() {
        sum("1-2-3", -4);
        sum("2+3*4", 14);
        sum("(2+3)*4", 20);
        sum("100/7/2", 7);
        sum("7*3/2*3", 30);
        sum("(0-7)/2", -4);
        sum("7/(0-2)", -4);
        sum("(0-7)/(0-2)", 3);
        sum("5/0", 0);
        sum("3+5/0*9", 3);
        sum("9999*9999", 1000000);
        sum("0-9999*9999", -1000000);
        sum("(0-9999)*9999-1", -1000000);
        sum("9999*9999+5-3", 999997);
        sum("min(3,2)+max(4,5)*min(1,max(0,1))", 7);
        sum("0-9999*9999+3", -999997);
    }

    private static void openings() {
        Check run = Check.of("16 opening", "folio 4 cells 2;opens 3-day*2;");
        for (int n = 0; n <= 60; n++) {
            run.due("opening(" + n + ")", run.folk.opening(n), Math.floorMod(3 - 2 * n, 5));
        }
        run.due("opening(61)", run.folk.opening(61), -1);
        run.due("opening(-1)", run.folk.opening(-1), -1);
        run.folk.days(4);
        run.due("opening(1)", run.folk.opening(1), Math.floorMod(3 - 10, 5));
        Check without = new Check("16 no folio");
        without.due("opening(0)", without.folk.opening(0), -1);
    }

    private static void ways() {
        Check run = Check.of("17 way", "folio 3 cells 5;gloss 1 2;worm 0 2 4;being a on 0 at 1 trade 2;being b on 1 at 3 trade 5;"
                + "being c on 2 at 0 trade 1;opens day*2+3;");
        int[][] want = {{0, 0, 0, 1}, {0, 0, 1, 0}, {0, 0, 4, 3}, {0, 1, 3, 1}, {0, 2, 4, 4}, {0, 2, 0, 3}, {0, 2, 1, 3},
            {0, 1, 2, -1}, {0, 1, 0, 4}, {1, 2, 1, 1}, {1, 0, 1, 1}};
        for (int[] row : want) {
            run.due("way(" + row[0] + ", " + row[1] + ", " + row[2] + ")", run.folk.way(row[0], row[1], row[2]), row[3]);
        }
        run.due("way(3, 0, 0)", run.folk.way(3, 0, 0), -1);
        run.due("way(-1, 0, 0)", run.folk.way(-1, 0, 0), -1);
        run.due("way(0, 3, 0)", run.folk.way(0, 3, 0), -1);
        run.due("way(0, -1, 0)", run.folk.way(0, -1, 0), -1);
        run.due("way(0, 0, 5)", run.folk.way(0, 0, 5), -1);
        run.due("way(0, 0, -1)", run.folk.way(0, 0, -1), -1);
        Check worms = Check.of("17 a WORM both ways", "folio 3 cells 5;worm 0 2 4;being a on 0 at 4 trade 2;being c on 2 at 4 trade 1;opens 1;");
        worms.due("way(0, 2, 4)", worms.folk.way(0, 2, 4), 1);
        worms.due("way(1, 0, 4)", worms.folk.way(1, 0, 4), 1);
        worms.due("way(0, 2, 0)", worms.folk.way(0, 2, 0), 5);
        worms.due("way(0, 1, 0)", worms.folk.way(0, 1, 0), -1);
        worms.due("gloss(0, 3)", worms.folk.gloss(0, 3), 100);
        worms.due("way(0, 0, 2)", worms.folk.way(0, 0, 2), -1);
        Check wall = Check.of("17 GLOSSES bar, BEINGS do not", "folio 1 cells 5;gloss 0 3;being a on 0 at 0 trade 0;being b on 0 at 1 trade 0;");
        wall.due("way(0, 0, 2)", wall.folk.way(0, 0, 2), 2);
        wall.due("way(0, 0, 1)", wall.folk.way(0, 0, 1), 1);
        wall.due("way(0, 0, 4)", wall.folk.way(0, 0, 4), -1);
        wayByDays();
    }

    /** The LEAVES lie on one another from one DAY on alone: the being has to wait. */
    private static void wayByDays() {
        for (int from : new int[] {0, 7, 39, 40}) {
            Check run = Check.of("17 waiting", "folio 2 cells 2;being a on 0 at 0 trade 0;opens max(0,min(1,day-" + from + "+1))*2;");
            run.due("way(0, 1, 1)", run.folk.way(0, 1, 1), from < 40 ? from + 1 : -1);
        }
    }

    private static void lastDays() {
        Check run = Check.of("15, 16, 17 near DAY 999", "folio 2 cells 4;being a on 0 at 0 trade 0;");
        run.tape(Check.sealed(3, 0xe5, 0, 0, 0, 0, 0, 5, 0, 0));
        run.due("on(): DAY 997", run.folk.on(), true);
        run.due("later(0, 2, 0)", run.folk.later(0, 2, 0), 0);
        run.due("later(0, 3, 0)", run.folk.later(0, 3, 0), -1);
        run.due("opening(2)", run.folk.opening(2), 0);
        run.due("opening(3)", run.folk.opening(3), -1);
        run.due("way(0, 0, 2)", run.folk.way(0, 0, 2), 2);
        run.due("way(0, 0, 3)", run.folk.way(0, 0, 3), -1);
        run.due("days(2)", run.folk.days(2), 0);
        run.due("later(0, 0, 1)", run.folk.later(0, 0, 1), 5);
        run.due("later(0, 1, 1)", run.folk.later(0, 1, 1), -1);
        run.due("opening(0)", run.folk.opening(0), 0);
        run.due("way(0, 0, 0)", run.folk.way(0, 0, 0), 0);
        run.due("way(0, 0, 1)", run.folk.way(0, 0, 1), -1);
    }
}
