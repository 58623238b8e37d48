/** Promises 18 to 21: who was seen where, trims. */
public final class SeenTest {
    // behind a DAY the BEINGS of open LEAVES stand one CELL further out
    private static final String OPEN = "folio 3 cells 4;corn 0;steps open=1;being a on 0 at 0 trade 0;"
            + "being b on 1 at 1 trade 0;being c on 2 at 3 trade 0;";

    public static void main(String[] args) {
        see();
        lay();
        after();
        lastDay();
        trim();
        trimMany();
        Check.finish();
    }

    private static void seen(Check run, int want, int... bytes) {
        run.tape(bytes);
        run.due("see() of " + java.util.Arrays.toString(bytes), run.folk.see(), want);
        run.due("the tape went", run.folk.end(1), false);
    }

    private static void see() {
        Check run = Check.of("18 see", OPEN);
        seen(run, 1, 0, 3);
        seen(run, 3, 2, 0, 2, 0, 2, 1);
        run.due("has(9)", run.folk.has(9), 3);
        seen(run, -1);
        seen(run, -1, 0);
        seen(run, -1, 0, 0, 1);
        seen(run, -1, 3, 0);
        seen(run, -1, 0, 4);
        seen(run, -1, 0, 0, 0, 255);
        seen(run, -1, new int[34]);
        run.due("status(1)", run.folk.status(1), 7);
        run.due("has(9)", run.folk.has(9), 3);
        seen(run, 16, new int[32]);
        run.due("has(9)", run.folk.has(9), 16);
        run.due("days(1)", run.folk.days(1), 0);
        run.due("has(9) behind a DAY", run.folk.has(9), 16);
        Check without = new Check("18 no folio");
        seen(without, -1, 0, 0);
        without.due("status(1)", without.folk.status(1), 1);
    }

    private static void laid(Check run, int bits) {
        run.due("lay(0)", run.folk.lay(0), Integer.bitCount(bits));
        run.due("lay(1)", run.folk.lay(1), bits);
    }

    private static void lay() {
        Check run = Check.of("19 lay", OPEN);
        laid(run, 15);
        seen(run, 1, 0, 1);
        laid(run, 3);
        seen(run, 1, 0, 0);
        laid(run, 12);
        seen(run, 1, 1, 2);
        laid(run, 6);
        seen(run, 2, 1, 2, 0, 0);
        laid(run, 4);
        seen(run, 2, 1, 2, 1, 1);
        laid(run, 0);
        seen(run, 1, 2, 3);
        laid(run, 15);
        seen(run, 1, 2, 2);
        laid(run, 0);
        run.due("lay(2)", run.folk.lay(2), -1);
        run.due("lay(-1)", run.folk.lay(-1), -1);
        run.due("all stays", run.folk.has(5), 0);
        seen(run, 1, 0, 1);
        run.due("go", run.folk.go(0, 2, 0), true);
        laid(run, 12);
        Check without = new Check("19 no folio");
        without.due("lay(0)", without.folk.lay(0), -1);
    }

    private static void asked(Check run, int being, int left) {
        run.due("after(0)", run.folk.after(0), being);
        run.due("after(1)", run.folk.after(1), left);
    }

    private static void after() {
        Check run = Check.of("20 after", OPEN);
        asked(run, 0, 2);
        seen(run, 1, 0, 1);
        asked(run, 1, 1);
        seen(run, 1, 1, 2);
        asked(run, 0, 1);
        seen(run, 2, 0, 1, 1, 2);
        asked(run, 0, 1);
        seen(run, 2, 0, 1, 0, 0);
        asked(run, -1, -1);
        run.due("after(2)", run.folk.after(2), -1);
        run.due("after(-1)", run.folk.after(-1), -1);
        Check none = Check.of("20 no BEINGS", "folio 2 cells 2;");
        asked(none, -1, -1);
        Check without = new Check("20 no folio");
        asked(without, -1, -1);
        // OPENING 0 opens leaf 0 alone, 1 leaves 0 and 1, ...: of five OPENINGS leaf 1 is open at two
        Check better = Check.of("20 the better one", "folio 4 cells 4;corn 0;steps [leaf=0 and open=1]or[leaf=2 and open=0];"
                + "being a on 1 at 0 trade 0;being b on 0 at 0 trade 0;being c on 2 at 0 trade 0;");
        asked(better, 1, 3);
    }

    private static void lastDay() {
        Check run = Check.of("19, 20 at DAY 999", "folio 2 cells 4;being a on 0 at 0 trade 0;");
        run.tape(Check.sealed(3, 0xe6, 0, 0, 0, 0, 0, 5, 0, 0));
        run.due("on(): DAY 998", run.folk.on(), true);
        run.due("lay(0)", run.folk.lay(0), 3);
        run.due("after(0)", run.folk.after(0), 0);
        run.due("days(1)", run.folk.days(1), 0);
        run.due("lay(0)", run.folk.lay(0), -1);
        run.due("lay(1)", run.folk.lay(1), -1);
        asked(run, -1, -1);
    }

    private static void trim() {
        Check run = Check.of("21 trim", "folio 2 cells 6;gloss 0 2;being a on 0 at 4 trade 0;being b on 0 at 5 trade 0;being c on 0 at 1 trade 0;");
        run.due("trim(0, 1)", run.folk.trim(0, 1), 2);
        run.due("trim(0, 2)", run.folk.trim(0, 2), 6);
        run.due("trim(0, 3)", run.folk.trim(0, 3), -1);
        run.due("trim(0, 4)", run.folk.trim(0, 4), -1);
        run.due("trim(1, 5)", run.folk.trim(1, 5), 0);
        run.due("trim(1, 6)", run.folk.trim(1, 6), -1);
        run.due("trim(1, 0)", run.folk.trim(1, 0), -1);
        run.due("trim(1, -1)", run.folk.trim(1, -1), -1);
        run.due("trim(2, 1)", run.folk.trim(2, 1), -1);
        run.due("trim(-1, 1)", run.folk.trim(-1, 1), -1);
        run.due("all stays", run.folk.has(1), 6);
        run.due("all stays", run.folk.being(1, 1), 5);
        Check without = new Check("21 no folio");
        without.due("trim(0, 1)", without.folk.trim(0, 1), -1);
    }

    private static void trimMany() {
        Check run = Check.of("21 trim", "folio 1 cells 8;being a on 0 at 7 trade 0;being b on 0 at 6 trade 0;being c on 0 at 4 trade 0;gloss 0 1;");
        run.due("trim(0, 1)", run.folk.trim(0, 1), 2);
        run.due("trim(0, 2)", run.folk.trim(0, 2), 13 - 8);
        run.due("trim(0, 3)", run.folk.trim(0, 3), 13 - 5);
        run.due("trim(0, 4)", run.folk.trim(0, 4), 17 - 5);
        run.due("trim(0, 5)", run.folk.trim(0, 5), -1);
    }
}
