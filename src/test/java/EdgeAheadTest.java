/** Section III of the document's terms: what lies ahead, what was seen, trims, each limit at it and one beyond it. */
public final class EdgeAheadTest {
    private static final String ONE = "folio 2 cells 4;being a on 0 at 0 trade 0;";
    // behind a DAY the BEINGS of open LEAVES stand one CELL further out
    private static final String STEPPING = "folio 3 cells 4;corn 0;steps open=1;being a on 0 at 0 trade 0;"
            + "being b on 1 at 1 trade 0;being c on 2 at 3 trade 0;";

    public static void main(String[] args) {
        wayWhereItIs();
        wayOfForty();
        wayToTheLastDay();
        wayInAndOut();
        wayThroughWorms();
        wayOntoWhatLies();
        wayByGlosses();
        apartLeast();
        readingDays();
        readingFirst();
        readingToTheLastDay();
        aheadSixty();
        aheadToTheLastDay();
        aheadWithoutDraws();
        aheadFullPurses();
        seenRows();
        seenBeingsAndCells();
        layAllOrNone();
        layToTheLastDay();
        afterNone();
        afterFirst();
        trimMany();
        trimOneLeft();
        trimCantGo();
        trimLeaves();
        dayOfEachTrial();
        Check.finish();
    }

    private static Check at(int day, String text) {
        Check run = Check.of("III from DAY " + day, text);
        run.folk.image();
        int[] bytes = run.image();
        bytes[0] = day / 256;
        bytes[1] = day % 256;
        run.tape(Check.sealed(java.util.Arrays.copyOf(bytes, bytes.length - 1)));
        run.due("on()", run.folk.on(), true);
        run.due("has(5)", run.folk.has(5), day);
        return run;
    }

    private static void way(Check run, int leaf, int cell, int days) {
        run.due("way(0, " + leaf + ", " + cell + ")", run.folk.way(0, leaf, cell), days);
    }

    /** "A WAY of a BEING, from where it is": there it is 0 DAYS, on any DAY. */
    private static void wayWhereItIs() {
        way(at(0, ONE), 0, 0, 0);
        way(at(999, ONE), 0, 0, 0);
        Check run = at(5, ONE);
        run.due("go(0, 1, 3)", run.folk.go(0, 1, 3), true);
        way(run, 1, 3, 0);
        way(run, 1, 2, 1);
    }

    /** "the fewest DAYS to a told LEAF, CELL, 40 at most": the LEAVES lie on one another from one DAY on. */
    private static void wayOfForty() {
        int[][] firstDay = {{0, 0, 1}, {0, 38, 39}, {0, 39, 40}, {0, 40, -1}, {0, 41, -1}, {100, 139, 40}, {100, 140, -1}};
        for (int[] row : firstDay) {
            Check run = at(row[0], "folio 2 cells 2;being a on 0 at 0 trade 0;opens max(0,min(1,day+1-" + row[1] + "))*2;");
            way(run, 1, 1, row[2]);
        }
        Check behind = at(0, "folio 2 cells 2;being a on 0 at 0 trade 0;opens max(0,min(1,day-37))*2;");
        way(behind, 1, 1, 39);
        way(behind, 1, 0, 39);
        Check late = at(0, "folio 2 cells 2;gloss 0 1;being a on 0 at 0 trade 0;opens max(0,min(1,day-38))*2;");
        way(late, 1, 1, 40);
        way(late, 1, 0, -1);
    }

    /** "not beyond DAY 999". */
    private static void wayToTheLastDay() {
        way(at(996, ONE), 0, 3, 3);
        way(at(997, ONE), 0, 2, 2);
        way(at(997, ONE), 0, 3, -1);
        way(at(998, ONE), 0, 1, 1);
        way(at(998, ONE), 0, 2, -1);
        way(at(999, ONE), 0, 1, -1);
        String lastStep = "folio 2 cells 2;being a on 0 at 0 trade 0;opens max(0,min(1,day-997))*2;";
        way(at(958, lastStep), 1, 1, -1);
        way(at(959, lastStep), 1, 1, 40);
        way(at(998, lastStep), 1, 1, 1);
        way(at(999, lastStep), 1, 1, -1);
        way(at(990, "folio 2 cells 2;being a on 0 at 0 trade 0;opens max(0,day-998)*2;"), 1, 1, -1);
    }

    /** "it stays, goes a CELL in or out": no further than the first and the last CELL of its LEAF. */
    private static void wayInAndOut() {
        Check inner = at(0, ONE);
        int[] fromFirst = {0, 1, 2, 3};
        for (int cell = 0; cell < 4; cell++) {
            way(inner, 0, cell, fromFirst[cell]);
            way(inner, 1, cell, -1);
        }
        way(inner, 0, 4, -1);
        way(inner, 0, -1, -1);
        Check outer = at(0, "folio 2 cells 8;being a on 0 at 7 trade 0;");
        way(outer, 0, 6, 1);
        way(outer, 0, 0, 7);
        way(outer, 0, 8, -1);
    }

    /** "through a WORM": at its CELL alone, to the same CELL of the other LEAF. */
    private static void wayThroughWorms() {
        Check run = at(0, "folio 6 cells 4;opens 0-day;worm 0 5 0;being a on 0 at 0 trade 0;being b on 5 at 0 trade 0;gloss 4 0;gloss 4 1;gloss 4 2;gloss 4 3;"
                + "gloss 1 0;gloss 1 1;gloss 1 2;gloss 1 3;");
        way(run, 5, 0, 1);
        way(run, 5, 1, 2);
        way(run, 5, 3, 4);
        run.due("way(1, 0, 0): a hole has two ends", run.folk.way(1, 0, 0), 1);
        run.due("go(0, 0, 3)", run.folk.go(0, 0, 3), true);
        way(run, 5, 0, 4);
        run.due("gloss(5, 0): b goes to 1", run.folk.gloss(5, 0), 1);
        way(run, 5, 0, -1);
        way(run, 5, 1, -1);
        Check two = at(0, "folio 3 cells 2;opens 1;worm 0 1 0;worm 1 2 0;being a on 0 at 0 trade 0;");
        way(two, 1, 0, 1);
        way(two, 2, 0, 2);
        way(two, 2, 1, 3);
    }

    /** "by the OPENING of that DAY, onto the CELL that lies on its own": of two LEAVES that do, either. */
    private static void wayOntoWhatLies() {
        Check run = at(0, "folio 3 cells 4;opens 3;being a on 1 at 0 trade 0;");
        way(run, 0, 3, 1);
        way(run, 2, 3, 1);
        way(run, 0, 0, 3 + 1);
        way(run, 2, 2, 2);
        Check open = at(0, "folio 3 cells 4;opens 1;being a on 1 at 0 trade 0;");
        way(open, 0, 3, -1);
        way(open, 2, 3, -1);
        Check byDays = at(0, "folio 3 cells 4;opens 3*day;being a on 1 at 0 trade 0;");
        way(byDays, 0, 3, 2);
        way(byDays, 2, 3, 1);
    }

    /** "on no CELL with a GLOSS (others do not bar it)". */
    private static void wayByGlosses() {
        Check run = at(0, "folio 2 cells 4;opens 2;gloss 0 1;gloss 1 3;being a on 0 at 0 trade 0;being b on 0 at 3 trade 0;");
        way(run, 0, 1, -1);
        way(run, 0, 2, -1);
        way(run, 1, 3, -1);
        way(run, 1, 0, -1);
        Check others = at(0, "folio 2 cells 4;opens 2;being a on 0 at 0 trade 0;being b on 0 at 1 trade 0;being c on 0 at 2 trade 0;being d on 1 at 3 trade 0;");
        way(others, 0, 1, 1);
        way(others, 0, 3, 3);
        way(others, 1, 3, 1);
    }

    /** "APART is the OPENING by which fewest would MEET on this DAY (pairs), of like ones the least." */
    private static void apartLeast() {
        String[] texts = {"folio 1 cells 2;", "folio 6 cells 2;opens 6;", "folio 2 cells 2;opens 2;being a on 0 at 0 trade 0;being b on 1 at 1 trade 0;",
            "folio 3 cells 2;being a on 1 at 0 trade 0;being b on 2 at 1 trade 0;", "folio 4 cells 2;being a on 2 at 0 trade 0;being b on 3 at 1 trade 0;",
            "folio 6 cells 2;being a on 3 at 0 trade 0;being b on 4 at 1 trade 0;being c on 5 at 0 trade 0;"};
        int[] due = {0, 0, 0, 1, 2, 4};
        for (int k = 0; k < texts.length; k++) {
            Check run = Check.of("III APART", texts[k]);
            run.due("apart() of " + texts[k], run.folk.apart(), due[k]);
            run.due("pairs(apart())", run.folk.pairs(run.folk.apart()), 0);
        }
        Check without = new Check("III APART without a folio");
        without.due("apart()", without.folk.apart(), -1);
    }

    /** "READING is a row of OPENINGS for 1 to 3 DAYS from now on"; promise 14: "NONE when n can't be, there is none such". */
    private static void readingDays() {
        Check run = Check.of("III READING", "folio 4 cells 2;opens 4;corn 0;being a on 0 at 0 trade 0;being b on 1 at 1 trade 0;"
                + "being c on 2 at 0 trade 0;being d on 3 at 1 trade 0;");
        int[] none = {Integer.MIN_VALUE, -1, 0, 4, 5, Integer.MAX_VALUE};
        for (int n : none) {
            run.due("reading(" + n + ", -1)", run.folk.reading(n, -1), -1);
            run.due("reading(" + n + ", 0)", run.folk.reading(n, 0), -1);
        }
        for (int n = 1; n <= 3; n++) {
            run.due("reading(" + n + ", -1)", run.folk.reading(n, -1), n);
            run.due("reading(" + n + ", -2)", run.folk.reading(n, -2), -1);
            run.due("reading(" + n + ", MIN)", run.folk.reading(n, Integer.MIN_VALUE), -1);
            for (int k = 0; k < n; k++) {
                run.due("reading(" + n + ", " + k + ")", run.folk.reading(n, k), 1);
            }
            run.due("reading(" + n + ", " + n + ")", run.folk.reading(n, n), -1);
            run.due("reading(" + n + ", MAX)", run.folk.reading(n, Integer.MAX_VALUE), -1);
        }
        Check without = new Check("III READING without a folio");
        without.due("reading(1, -1)", without.folk.reading(1, -1), -1);
        without.due("reading(1, 0)", without.folk.reading(1, 0), -1);
    }

    /** "by which fewest pairs MEET in them; of like ones the first". */
    private static void readingFirst() {
        Check none = Check.of("III READING, none MEET", "folio 6 cells 2;opens 6;");
        for (int k = 0; k < 3; k++) {
            none.due("reading(3, " + k + ")", none.folk.reading(3, k), 0);
        }
        none.due("reading(3, -1)", none.folk.reading(3, -1), 0);
        // a and b MEET at OPENING 2 alone: 0 and 1 are like
        Check like = Check.of("III READING, like ones", "folio 2 cells 4;opens 2;corn 0;being a on 0 at 0 trade 0;being b on 1 at 3 trade 0;");
        like.due("reading(3, -1)", like.folk.reading(3, -1), 0);
        like.due("reading(3, 2)", like.folk.reading(3, 2), 0);
        // e and f MEET at the OPENINGS 0, 1, 4, at 0 b and e too; at 2, 3, 4 those on the LEAVES 0 and 1, two pairs
        Check cheap = Check.of("III READING, one pair at least", "folio 4 cells 4;opens 4;corn 0;being a on 0 at 0 trade 0;being b on 1 at 3 trade 0;"
                + "being c on 0 at 1 trade 0;being d on 1 at 2 trade 0;being e on 2 at 0 trade 0;being f on 3 at 3 trade 0;");
        cheap.due("reading(2, -1)", cheap.folk.reading(2, -1), 2);
        cheap.due("reading(2, 0)", cheap.folk.reading(2, 0), 1);
        cheap.due("reading(2, 1)", cheap.folk.reading(2, 1), 1);
    }

    /** A READING passes its DAYS, and there is none behind DAY 999. */
    private static void readingToTheLastDay() {
        int[][] days = {{996, 1, 0}, {996, 3, 0}, {997, 2, 0}, {997, 3, -1}, {998, 1, 0}, {998, 2, -1}, {999, 1, -1}};
        for (int[] row : days) {
            Check run = at(row[0], ONE);
            run.due("reading(" + row[1] + ", -1)", run.folk.reading(row[1], -1), row[2]);
            run.due("reading(" + row[1] + ", 0)", run.folk.reading(row[1], 0), row[2]);
        }
    }

    /** "AHEAD are DAYS as they come from now on without DRAWS (60 at most". */
    private static void aheadSixty() {
        Check run = Check.of("III AHEAD", "folio 2 cells 2;opens day;corn 1;being a on 0 at 0 trade 0;");
        int[] none = {Integer.MIN_VALUE, -1, 61, 62, Integer.MAX_VALUE};
        for (int n : none) {
            for (int what = 0; what < 3; what++) {
                run.due("later(0, " + n + ", " + what + ")", run.folk.later(0, n, what), -1);
            }
            run.due("opening(" + n + ")", run.folk.opening(n), -1);
        }
        int[] some = {0, 1, 59, 60};
        for (int n : some) {
            run.due("later(0, " + n + ", 0)", run.folk.later(0, n, 0), 0);
            run.due("later(0, " + n + ", 1)", run.folk.later(0, n, 1), 5 + n);
            run.due("later(0, " + n + ", 2)", run.folk.later(0, n, 2), 0);
            run.due("opening(" + n + ")", run.folk.opening(n), n % 3);
        }
        run.due("has(5): all stays", run.folk.has(5), 0);
        run.due("has(10): no ACT", run.folk.has(10), 0);
    }

    /** "not beyond DAY 999)". */
    private static void aheadToTheLastDay() {
        int[][] days = {{939, 60, 1}, {940, 59, 1}, {940, 60, 0}, {998, 1, 1}, {998, 2, 0}, {999, 0, 1}, {999, 1, 0}};
        for (int[] row : days) {
            Check run = at(row[0], "folio 1 cells 2;corn 1;opens day;being a on 0 at 0 trade 0;");
            run.due("later(0, " + row[1] + ", 1)", run.folk.later(0, row[1], 1), row[2] == 1 ? 5 + row[1] : -1);
            run.due("later(0, " + row[1] + ", 2)", run.folk.later(0, row[1], 2), row[2] - 1);
            run.due("opening(" + row[1] + ")", run.folk.opening(row[1]), row[2] == 1 ? (row[0] + row[1]) % 2 : -1);
        }
    }

    /** "as they come from now on without DRAWS": thumbs change nothing ahead, nor does looking draw. */
    private static void aheadWithoutDraws() {
        Check run = Check.of("III AHEAD without DRAWS", "folio 1 cells 2;corn 1;being a on 0 at 0 trade 0;thumb 100;");
        run.due("later(0, 60, 1)", run.folk.later(0, 60, 1), 65);
        Check same = Check.of("III AHEAD without DRAWS", "folio 1 cells 2;corn 1;being a on 0 at 0 trade 0;thumb 50;");
        Check other = Check.of("III AHEAD without DRAWS", "folio 1 cells 2;corn 1;being a on 0 at 0 trade 0;thumb 50;");
        same.folk.later(0, 60, 1);
        same.folk.reading(3, 0);
        same.folk.lay(0);
        same.folk.after(0);
        for (int k = 0; k < 20; k++) {
            same.due("chance(1)", same.folk.chance(1), other.folk.chance(1));
        }
    }

    /** Ahead too a purse is 0 .. 9999, and "how often it MET one in them" counts from 0 on. */
    private static void aheadFullPurses() {
        Check run = Check.of("III AHEAD at the ends of a purse", "folio 2 cells 2;opens 2;corn 0;toll 3;being a on 0 at 0 trade 0;being b on 1 at 1 trade 0;");
        run.tape(Check.sealed(0, 0, 0, 0, 0, 0, 0, 5, 0x27, 0x0f, 1, 1, 0x27, 0x0b, 0, 7));
        run.due("on()", run.folk.on(), true);
        run.due("later(0, 1, 1)", run.folk.later(0, 1, 1), 2);
        run.due("later(0, 2, 1)", run.folk.later(0, 2, 1), 0);
        run.due("later(1, 1, 1)", run.folk.later(1, 1, 1), 9998);
        run.due("later(1, 2, 1)", run.folk.later(1, 2, 1), 9999);
        run.due("later(0, 2, 2)", run.folk.later(0, 2, 2), 2);
        run.due("later(1, 60, 2)", run.folk.later(1, 60, 2), 60);
        run.due("later(1, 0, 2)", run.folk.later(1, 0, 2), 0);
    }

    private static Check refusedRows(int... bytes) {
        Check run = Check.standing("III SEEN");
        run.tape(bytes);
        run.refused("see() of " + bytes.length + " bytes", 1, run.folk::see, -1);
        run.due("has(9): what was SEEN stays", run.folk.has(9), 1);
        run.due("the tape goes: feed", run.folk.feed(0, 0, 0, 0, 0), 20);
        return run;
    }

    private static void takenRows(int rows, int... bytes) {
        Check run = Check.standing("III SEEN");
        run.tape(bytes);
        run.due("see() of " + bytes.length + " bytes", run.folk.see(), rows);
        run.due("has(9)", run.folk.has(9), rows);
        run.due("status(1)", run.folk.status(1), 0);
        run.due("the tape goes: feed", run.folk.feed(0, 0, 0, 0, 0), 20);
    }

    /** Promise 18: "1 to 16 rows of two bytes: BEING, CELL". */
    private static void seenRows() {
        takenRows(1, 1, 2);
        takenRows(2, 1, 2, 1, 2);
        takenRows(15, new int[30]);
        takenRows(16, new int[32]);
        refusedRows();
        refusedRows(0);
        refusedRows(0, 0, 0);
        refusedRows(new int[31]);
        refusedRows(new int[33]);
        refusedRows(new int[34]);
        refusedRows(new int[1600]);
        Check without = new Check("III SEEN without a folio");
        without.tape(0, 0);
        without.refused("see()", 1, without.folk::see, -1);
        without.due("the tape goes: feed", without.folk.feed(0, 0, 0, 0, 0), 20);
        Check none = Check.of("III SEEN without BEINGS", "folio 2 cells 3;");
        none.tape(0, 0);
        none.refused("see()", 1, none.folk::see, -1);
    }

    /** A BEING and a CELL that there are, in each of the rows. */
    private static void seenBeingsAndCells() {
        takenRows(2, 0, 0, 1, 2);
        refusedRows(2, 0);
        refusedRows(0, 3);
        refusedRows(255, 0);
        refusedRows(0, 255);
        refusedRows(128, 128);
        refusedRows(0, 0, 2, 0);
        refusedRows(0, 0, 0, 3);
        int[] last = new int[32];
        last[31] = 3;
        refusedRows(last);
        last[31] = 2;
        takenRows(16, last);
    }

    private static void laid(Check run, int bits) {
        run.due("lay(0)", run.folk.lay(0), Integer.bitCount(bits));
        run.due("lay(1)", run.folk.lay(1), bits);
    }

    private static void see(Check run, int... bytes) {
        run.tape(bytes);
        run.due("see()", run.folk.see(), bytes.length / 2);
    }

    /** Promise 19: "OPENINGS by what is SEEN (all, if nothing is): how many (what 0), as bits (1)". */
    private static void layAllOrNone() {
        for (int leaves = 1; leaves <= 6; leaves++) {
            Check run = Check.of("III lay", "folio " + leaves + " cells 2;opens 1;");
            laid(run, (2 << leaves) - 1);
        }
        Check run = Check.of("III lay", STEPPING + "opens 3;");
        laid(run, 15);
        see(run, 0, 1);
        laid(run, 3);
        see(run, 0, 1, 1, 2);
        laid(run, 2);
        see(run, 0, 1, 1, 2, 2, 0);
        laid(run, 0);
        see(run, 1, 1);
        laid(run, 9);
        run.due("lay(2)", run.folk.lay(2), -1);
        run.due("lay(-1)", run.folk.lay(-1), -1);
        run.due("lay(MAX)", run.folk.lay(Integer.MAX_VALUE), -1);
        run.due("has(5): all stays", run.folk.has(5), 0);
        Check without = new Check("III lay without a folio");
        without.due("lay(0)", without.folk.lay(0), -1);
        without.due("lay(1)", without.folk.lay(1), -1);
    }

    /** "NONE without a folio, at DAY 999". */
    private static void layToTheLastDay() {
        Check last = at(998, ONE);
        laid(last, 7);
        last.due("after(0)", last.folk.after(0), 0);
        last.due("after(1)", last.folk.after(1), 3);
        Check beyond = at(999, ONE);
        beyond.due("lay(0)", beyond.folk.lay(0), -1);
        beyond.due("lay(1)", beyond.folk.lay(1), -1);
        beyond.due("after(0)", beyond.folk.after(0), -1);
        beyond.due("after(1)", beyond.folk.after(1), -1);
    }

    /** Promise 20: "NONE without an OPENING, without BEINGS, at DAY 999, or for others". */
    private static void afterNone() {
        Check run = Check.of("III after", STEPPING);
        see(run, 0, 3);
        laid(run, 0);
        run.due("after(0)", run.folk.after(0), -1);
        run.due("after(1)", run.folk.after(1), -1);
        see(run, 0, 1, 1, 2);
        run.due("after(0)", run.folk.after(0), 0);
        run.due("after(1)", run.folk.after(1), 1);
        run.due("after(2)", run.folk.after(2), -1);
        run.due("after(-1)", run.folk.after(-1), -1);
        Check none = Check.of("III after without BEINGS", "folio 3 cells 2;");
        none.due("lay(0)", none.folk.lay(0), 4);
        none.due("after(0)", none.folk.after(0), -1);
        none.due("after(1)", none.folk.after(1), -1);
        Check without = new Check("III after without a folio");
        without.due("after(0)", without.folk.after(0), -1);
        without.due("after(1)", without.folk.after(1), -1);
    }

    /** "by whose CELL then, whatever it is, the most OPENINGS left are fewest; of like ones the first". */
    private static void afterFirst() {
        Check like = Check.of("III after, like ones", STEPPING);
        like.due("after(0)", like.folk.after(0), 0);
        like.due("after(1)", like.folk.after(1), 2);
        Check none = Check.of("III after, all stay", "folio 3 cells 2;being a on 0 at 0 trade 0;being b on 1 at 0 trade 0;");
        none.due("after(0)", none.folk.after(0), 0);
        none.due("after(1)", none.folk.after(1), 4);
        // c is the last of three; LEAF 1 is open at the OPENINGS 1, 2 of 0 .. 3, and none else steps
        Check last = Check.of("III after, the last one", "folio 3 cells 2;corn 0;steps open=1 and leaf=1;being a on 0 at 0 trade 0;"
                + "being b on 2 at 0 trade 0;being c on 1 at 0 trade 0;");
        last.due("after(0)", last.folk.after(0), 2);
        last.due("after(1)", last.folk.after(1), 2);
    }

    private static void trims(Check run, int leaf, int many, int gone) {
        run.due("trim(" + leaf + ", " + many + ")", run.folk.trim(leaf, many), gone);
    }

    /** "TRIMMED a LEAF loses so many outermost CELLS (1 and on, one left at least)". */
    private static void trimMany() {
        for (int cells = 2; cells <= 8; cells++) {
            Check run = Check.of("III TRIMMED", "folio 1 cells " + cells + ";being a on 0 at " + (cells - 1) + " trade 0;");
            trims(run, 0, Integer.MIN_VALUE, -1);
            trims(run, 0, -1, -1);
            trims(run, 0, 0, -1);
            trims(run, 0, 1, 1);
            trims(run, 0, cells - 1, cells - 1);
            trims(run, 0, cells, -1);
            trims(run, 0, cells + 1, -1);
            trims(run, 0, Integer.MAX_VALUE, -1);
            run.due("has(1): all stays", run.folk.has(1), cells);
            run.due("being(0, 1): all stays", run.folk.being(0, 1), cells - 1);
        }
    }

    /** "its BEINGS there go to CELLS left of it": with one CELL left, one BEING can. */
    private static void trimOneLeft() {
        Check nobody = Check.of("III TRIMMED, nobody there", "folio 1 cells 4;being a on 0 at 0 trade 0;");
        trims(nobody, 0, 3, 0);
        Check one = Check.of("III TRIMMED, one there", "folio 1 cells 4;being a on 0 at 3 trade 0;");
        trims(one, 0, 3, 3);
        Check two = Check.of("III TRIMMED, two there", "folio 1 cells 4;being a on 0 at 3 trade 0;being b on 0 at 2 trade 0;");
        trims(two, 0, 3, -1);
        trims(two, 0, 2, 4);
        trims(two, 0, 1, 2);
        Check filled = Check.of("III TRIMMED, one left and taken", "folio 1 cells 4;being a on 0 at 3 trade 0;being b on 0 at 0 trade 0;");
        trims(filled, 0, 3, -1);
        trims(filled, 0, 2, 2);
        Check glossed = Check.of("III TRIMMED, one left with a GLOSS", "folio 1 cells 4;being a on 0 at 3 trade 0;gloss 0 0;");
        trims(glossed, 0, 3, -1);
        trims(glossed, 0, 2, 2);
    }

    /** Promise 21: "NONE when they can't all go". */
    private static void trimCantGo() {
        Check run = Check.of("III TRIMMED, a full LEAF", "folio 2 cells 8;being a on 0 at 7 trade 0;being b on 0 at 6 trade 0;being c on 0 at 5 trade 0;being d on 0 at 4 trade 0;"
                + "gloss 0 0;gloss 0 1;");
        trims(run, 0, 1, 4);
        trims(run, 0, 2, 13 - 5);
        trims(run, 0, 3, -1);
        trims(run, 0, 4, -1);
        Check even = Check.of("III TRIMMED, half of it", "folio 2 cells 8;being a on 0 at 7 trade 0;being b on 0 at 6 trade 0;being c on 0 at 5 trade 0;being d on 0 at 4 trade 0;");
        trims(even, 0, 4, 16);
        trims(even, 0, 5, -1);
        trims(even, 0, 3, 18 - 6);
        Check gaps = Check.of("III TRIMMED, a GLOSS among what goes", "folio 1 cells 8;gloss 0 6;gloss 0 3;being a on 0 at 7 trade 0;being b on 0 at 4 trade 0;");
        trims(gaps, 0, 1, 2);
        trims(gaps, 0, 2, 2);
        trims(gaps, 0, 3, 5);
        trims(gaps, 0, 4, 11 - 3);
        trims(gaps, 0, 5, 11 - 3);
        trims(gaps, 0, 6, 11 - 1);
        trims(gaps, 0, 7, -1);
    }

    /** "or there is none such". */
    private static void trimLeaves() {
        Check run = Check.of("III TRIMMED, LEAVES", "folio 3 cells 4;being a on 2 at 3 trade 0;");
        trims(run, -1, 1, -1);
        trims(run, 0, 1, 0);
        trims(run, 2, 1, 1);
        trims(run, 3, 1, -1);
        trims(run, Integer.MAX_VALUE, 1, -1);
        trims(run, Integer.MIN_VALUE, 1, -1);
        Check without = new Check("III TRIMMED without a folio");
        trims(without, 0, 1, -1);
    }

    /** A DAY that is tried is the DAY it is, whatever DAY was looked at ahead of it. */
    private static void dayOfEachTrial() {
        String text = "folio 2 cells 4;corn 0;steps day=1;being a on 0 at 0 trade 0;being b on 1 at 2 trade 0;opens 2*day;";
        for (int n = 0; n < 4; n++) {
            Check run = Check.of("III the DAY of a trial", text);
            see(run, 0, 1);
            run.due("opening(" + n + ")", run.folk.opening(n), 2 * n % 3);
            laid(run, 0);
            run.due("days(1)", run.folk.days(1), 0);
            run.due("opening(" + n + ")", run.folk.opening(n), 2 * (n + 1) % 3);
            laid(run, 7);
        }
        // a and b MEET at the OPENINGS 2, 3, 4; c steps on DAY 1 alone, and MEETS d from DAY 2 on at 0, 1, 4
        Check run = Check.of("III the DAYS of a READING", "folio 4 cells 4;corn 0;steps day=1 and trade=1;opens 4;"
                + "being a on 0 at 0 trade 0;being b on 1 at 3 trade 0;being c on 2 at 1 trade 1;being d on 3 at 1 trade 0;");
        int[][] due = {{1, -1, 0}, {1, 0, 0}, {2, -1, 0}, {2, 1, 0}, {3, -1, 1}, {3, 0, 0}, {3, 1, 0}, {3, 2, 0}};
        for (int[] row : due) {
            run.due("reading(" + row[0] + ", " + row[1] + ")", run.folk.reading(row[0], row[1]), row[2]);
        }
    }
}
