import java.math.BigInteger;

/** Section II of the document's terms: OPENINGS, DAYS and ACTS, each limit at it and one beyond it. */
public final class EdgeDayTest {
    private static final String PAIR = "folio 2 cells 2;opens 2;corn 0;being a on 0 at 0 trade 0;being b on 1 at 1 trade 0;";

    public static void main(String[] args) {
        openLeaves();
        leavesOnOneAnother();
        mirrored();
        openingModulo();
        whoMeets();
        metFull();
        tollAsFarAsThePurse();
        tollBelowZero();
        tollAboveIsLost();
        tollWithout();
        cornCut();
        cornPurse();
        cornWithout();
        stepsOutward();
        stepsInTurn();
        lastDay();
        atFirst();
        evicted();
        notEvicted();
        thumbEdge();
        thumbWithout();
        thumbHalf();
        thumbOfWhom();
        thumbWithoutBeings();
        lastTwenty();
        actsOfEachKind();
        lastForty();
        keptOfOneDay();
        draws();
        Check.finish();
    }

    /** "0 ahead of the first LEAF, .. the number of LEAVES behind the last one: the LEAF ahead of it and the LEAF behind it lie open". */
    private static void openLeaves() {
        int[][] open = {{1, 0, 0}, {1, 1, 0}, {0, 1, 1}, {0, 0, 1}};
        for (int opening = 0; opening <= 3; opening++) {
            Check run = Check.of("II OPENING " + opening, "folio 3 cells 2;opens " + opening
                    + ";being a on 0 at 0 trade 0;being b on 1 at 0 trade 0;being c on 2 at 0 trade 0;");
            run.due("has(6)", run.folk.has(6), opening);
            for (int leaf = 0; leaf < 3; leaf++) {
                run.due("being(" + leaf + ", 5)", run.folk.being(leaf, 5), open[opening][leaf]);
            }
        }
        for (int opening = 0; opening <= 1; opening++) {
            Check run = Check.of("II one LEAF, OPENING " + opening, "folio 1 cells 2;opens " + opening + ";being a on 0 at 0 trade 0;");
            run.due("being(0, 5)", run.folk.being(0, 5), 1);
            run.due("cell(0, 0, 2)", run.folk.cell(0, 0, 2), -1);
        }
        int[] first = {1, 1, 0, 0, 0, 0, 0};
        int[] last = {0, 0, 0, 0, 0, 1, 1};
        for (int opening = 0; opening <= 6; opening++) {
            Check run = Check.of("II six LEAVES, OPENING " + opening, "folio 6 cells 2;opens " + opening
                    + ";being a on 0 at 0 trade 0;being b on 5 at 0 trade 0;");
            run.due("being(0, 5)", run.folk.being(0, 5), first[opening]);
            run.due("being(1, 5)", run.folk.being(1, 5), last[opening]);
        }
    }

    /** "Any other LEAF lies on the next one, if there is one"; promise 9: "NONE when none does; of two, the one ahead". */
    private static void leavesOnOneAnother() {
        int[][] upon = {{-1, 2, 1}, {-1, -1, -1}, {1, 0, -1}, {1, 0, 1}};
        for (int opening = 0; opening <= 3; opening++) {
            Check run = Check.of("II LEAVES at OPENING " + opening, "folio 3 cells 2;opens " + opening + ";");
            for (int leaf = 0; leaf < 3; leaf++) {
                run.due("cell(" + leaf + ", 0, 2)", run.folk.cell(leaf, 0, 2), upon[opening][leaf]);
                run.due("cell(" + leaf + ", 0, 3)", run.folk.cell(leaf, 0, 3), upon[opening][leaf] < 0 ? -1 : 1);
            }
        }
        int[][] two = {{-1, -1}, {-1, -1}, {1, 0}};
        for (int opening = 0; opening <= 2; opening++) {
            Check run = Check.of("II two LEAVES at OPENING " + opening, "folio 2 cells 2;opens " + opening + ";");
            run.due("cell(0, 1, 2)", run.folk.cell(0, 1, 2), two[opening][0]);
            run.due("cell(1, 1, 2)", run.folk.cell(1, 1, 2), two[opening][1]);
        }
    }

    /** "a CELL of it on the mirrored CELL of the next LEAF (CELLS less 1 less its number), and that one on it". */
    private static void mirrored() {
        for (int cells = 2; cells <= 8; cells++) {
            Check run = Check.of("II mirrored", "folio 2 cells " + cells + ";opens 2;");
            run.due("cell(0, 0, 3)", run.folk.cell(0, 0, 3), cells - 1);
            run.due("cell(1, 0, 3)", run.folk.cell(1, 0, 3), cells - 1);
            run.due("cell(0, " + (cells - 1) + ", 3)", run.folk.cell(0, cells - 1, 3), 0);
            run.due("cell(1, 1, 3)", run.folk.cell(1, 1, 3), cells - 2);
        }
    }

    /** "the SUM of opens modulo one more than the LEAVES (also of what is below 0; 0 without)". */
    private static void openingModulo() {
        String[] sums = {"2", "3", "4", "7", "8", "0-1", "0-3", "0-4", "0-5", "0-8", "9999*9999", "0-9999*9999", "0-9999*9999+1"};
        int[] due = {2, 3, 0, 3, 0, 3, 1, 0, 3, 0, 0, 0, 1};
        for (int k = 0; k < sums.length; k++) {
            Check run = Check.of("II OPENING", "folio 3 cells 2;opens " + sums[k] + ";");
            run.due("has(6) by " + sums[k], run.folk.has(6), due[k]);
            run.due("opening(0) by " + sums[k], run.folk.opening(0), due[k]);
        }
        Check without = Check.of("II OPENING without opens", "folio 3 cells 2;");
        without.due("has(6)", without.folk.has(6), 0);
        without.due("opening(60)", without.folk.opening(60), 0);
        Check one = Check.of("II OPENING of one LEAF", "folio 1 cells 2;opens 0-day;");
        for (int n = 0; n < 4; n++) {
            one.due("opening(" + n + ")", one.folk.opening(n), n % 2);
        }
    }

    /** "Two BEINGS MEET, if their LEAVES lie on one another, at CELLS that do." */
    private static void whoMeets() {
        String[] second = {"1 at 3", "1 at 2", "1 at 0", "0 at 3", "2 at 0", "2 at 3"};
        int[] due = {1, 0, 0, 0, 0, 0};
        for (int k = 0; k < second.length; k++) {
            Check run = Check.of("II MEET", "folio 3 cells 4;opens 3;being a on 0 at 0 trade 0;being b on " + second[k] + " trade 0;");
            run.due("meets(0, 1) on " + second[k], run.folk.meets(0, 1), due[k]);
            run.due("meets(1, 0) on " + second[k], run.folk.meets(1, 0), due[k]);
            run.due("pairs(-1) on " + second[k], run.folk.pairs(-1), due[k]);
            run.due("days(1) on " + second[k], run.folk.days(1), due[k]);
        }
        int[] byOpening = {0, 0, 1, 1};
        for (int opening = 0; opening <= 3; opening++) {
            Check run = Check.of("II MEET", "folio 3 cells 4;opens " + opening + ";being a on 0 at 1 trade 0;being b on 1 at 2 trade 0;");
            run.due("meets(0, 1) at " + opening, run.folk.meets(0, 1), byOpening[opening]);
        }
    }

    private static int[] pairImage(int day, int[] purse, int[] met) {
        return Check.sealed(day / 256, day % 256, 0, 0, 0, 0, purse[0] / 256, purse[0] % 256, met[0] / 256, met[0] % 256,
                1, 1, purse[1] / 256, purse[1] % 256, met[1] / 256, met[1] % 256);
    }

    private static Check pair(String rules, int one, int other) {
        Check run = Check.of("II a pair of purses " + one + ", " + other + ", " + rules, PAIR + rules);
        run.tape(pairImage(0, new int[] {one, other}, new int[] {0, 0}));
        run.due("on()", run.folk.on(), true);
        return run;
    }

    private static void paid(String rules, int one, int other, int oneThen, int otherThen) {
        Check run = pair(rules, one, other);
        run.due("later(0, 1, 1)", run.folk.later(0, 1, 1), oneThen);
        run.due("later(1, 1, 1)", run.folk.later(1, 1, 1), otherThen);
        run.due("days(1)", run.folk.days(1), 1);
        run.due("being(0, 3)", run.folk.being(0, 3), oneThen);
        run.due("being(1, 3)", run.folk.being(1, 3), otherThen);
        run.due("has(7)", run.folk.has(7), oneThen + otherThen);
    }

    /** "each MET one more (9999 at most)". */
    private static void metFull() {
        Check run = Check.of("II MET 9999 at most", PAIR);
        run.tape(pairImage(0, new int[] {5, 5}, new int[] {9998, 9999}));
        run.due("on()", run.folk.on(), true);
        run.due("days(1)", run.folk.days(1), 1);
        run.due("being(0, 4): one more", run.folk.being(0, 4), 9999);
        run.due("being(1, 4): full", run.folk.being(1, 4), 9999);
        run.due("days(1)", run.folk.days(1), 1);
        run.due("being(0, 4): full", run.folk.being(0, 4), 9999);
        run.due("has(8): KEPT all the same", run.folk.has(8), 2);
        run.ask("total met", 19998);
    }

    /** "the first pays the second the SUM of toll (..; as far as the purse goes". */
    private static void tollAsFarAsThePurse() {
        paid("toll 4;", 5, 5, 1, 9);
        paid("toll 5;", 5, 5, 0, 10);
        paid("toll 6;", 5, 5, 0, 10);
        paid("toll 1;", 0, 5, 0, 5);
        paid("toll 1;", 1, 5, 0, 6);
        paid("toll 0;", 5, 5, 5, 5);
        paid("toll 9999;", 9999, 0, 0, 9999);
        paid("toll 9999*9999;", 9999, 0, 0, 9999);
    }

    /** "below 0 the second one pays that; as far as the purse goes". */
    private static void tollBelowZero() {
        paid("toll 0-1;", 5, 5, 6, 4);
        paid("toll 0-5;", 5, 5, 10, 0);
        paid("toll 0-6;", 5, 5, 10, 0);
        paid("toll 0-1;", 5, 0, 5, 0);
        paid("toll 0-9999*9999;", 0, 9999, 9999, 0);
    }

    /** "a purse is 0 .. 9999, what is above is lost". */
    private static void tollAboveIsLost() {
        paid("toll 5;", 5, 9994, 0, 9999);
        paid("toll 5;", 5, 9995, 0, 9999);
        paid("toll 5;", 5, 9999, 0, 9999);
        paid("toll 0-5;", 9994, 5, 9999, 0);
        paid("toll 0-5;", 9995, 5, 9999, 0);
        paid("toll 9999;", 9999, 9999, 0, 9999);
    }

    /** "(by its own PARTS; without: 1; ..". */
    private static void tollWithout() {
        paid("", 5, 5, 4, 6);
        paid("", 1, 5, 0, 6);
        paid("", 0, 5, 0, 5);
        paid("", 5, 9999, 4, 9999);
    }

    private static void reaped(String corn, int cell, int purse, int then) {
        Check run = Check.of("II corn " + corn, "folio 1 cells 8;being a on 0 at " + cell + " trade 0;" + corn);
        run.tape(Check.sealed(0, 0, 0, 0, cell, purse / 256, purse % 256, 0, 0));
        run.due("on()", run.folk.on(), true);
        run.due("later(0, 1, 1) from " + purse, run.folk.later(0, 1, 1), then);
        run.due("days(1)", run.folk.days(1), 0);
        run.due("being(0, 3) from " + purse, run.folk.being(0, 3), then);
    }

    /** "THEN each reaps the SUM of corn, -99 .. 99 (cut". */
    private static void cornCut() {
        reaped("corn 98;", 0, 500, 598);
        reaped("corn 99;", 0, 500, 599);
        reaped("corn 100;", 0, 500, 599);
        reaped("corn 9999*9999;", 0, 500, 599);
        reaped("corn 0-98;", 0, 500, 402);
        reaped("corn 0-99;", 0, 500, 401);
        reaped("corn 0-100;", 0, 500, 401);
        reaped("corn 0-9999*9999;", 0, 500, 401);
    }

    /** "its purse 0 at least, 9999 at most". */
    private static void cornPurse() {
        reaped("corn 0-4;", 0, 5, 1);
        reaped("corn 0-5;", 0, 5, 0);
        reaped("corn 0-6;", 0, 5, 0);
        reaped("corn 0-99;", 0, 0, 0);
        reaped("corn 4;", 0, 9994, 9998);
        reaped("corn 5;", 0, 9994, 9999);
        reaped("corn 6;", 0, 9994, 9999);
        reaped("corn 99;", 0, 9999, 9999);
    }

    /** "cell without". */
    private static void cornWithout() {
        reaped("", 0, 5, 5);
        reaped("", 1, 5, 6);
        reaped("", 7, 5, 12);
        reaped("", 7, 9992, 9999);
        reaped("", 7, 9993, 9999);
    }

    private static void stepped(String text, int... cells) {
        Check run = Check.of("II steps", "folio 2 cells 3;corn 0;" + text);
        run.due("days(1)", run.folk.days(1), 0);
        for (int k = 0; k < cells.length; k++) {
            run.due("being(" + k + ", 1) of " + text, run.folk.being(k, 1), cells[k]);
        }
    }

    /** "goes a CELL outward (one more) of its LEAF, if that is one, without a GLOSS, on which none stands"; "without it never". */
    private static void stepsOutward() {
        stepped("steps all;being a on 0 at 0 trade 0;", 1);
        stepped("steps all;being a on 0 at 1 trade 0;", 2);
        stepped("steps all;being a on 0 at 2 trade 0;", 2);
        stepped("steps all;gloss 0 2;being a on 0 at 1 trade 0;", 1);
        stepped("steps all;gloss 1 2;being a on 0 at 1 trade 0;", 2);
        stepped("steps all;being a on 0 at 1 trade 0;being b on 0 at 2 trade 0;", 1, 2);
        stepped("steps all;being a on 0 at 1 trade 0;being b on 1 at 2 trade 0;", 2, 2);
        stepped("steps not all;being a on 0 at 0 trade 0;", 0);
        stepped("being a on 0 at 0 trade 0;", 0);
        stepped("steps cell<1;being a on 0 at 0 trade 0;being b on 1 at 1 trade 0;", 1, 1);
    }

    /** "THEN BEING by BEING": who goes first makes room for those of a greater number alone. */
    private static void stepsInTurn() {
        stepped("steps all;being a on 0 at 1 trade 0;being b on 0 at 0 trade 0;", 2, 1);
        stepped("steps all;being a on 0 at 0 trade 0;being b on 0 at 1 trade 0;", 0, 2);
    }

    private static Check atDay(int day) {
        Check run = Check.of("II DAY " + day, PAIR);
        run.tape(pairImage(day, new int[] {5, 5}, new int[] {0, 0}));
        run.due("on()", run.folk.on(), true);
        run.due("has(5)", run.folk.has(5), day);
        return run;
    }

    /** "The DAY is one more (999 at most)." */
    private static void lastDay() {
        Check last = atDay(998);
        last.due("days(1)", last.folk.days(1), 1);
        last.due("has(5)", last.folk.has(5), 999);
        last.refused("days(1) at DAY 999", 3, () -> last.folk.days(1), -1);
        last.refused("chance(1) at DAY 999", 3, () -> last.folk.chance(1), -1);
        Check beyond = atDay(998);
        beyond.refused("days(2) at DAY 998", 3, () -> beyond.folk.days(2), -1);
        beyond.refused("chance(2) at DAY 998", 3, () -> beyond.folk.chance(2), -1);
        beyond.due("chance(1)", beyond.folk.chance(1), 0);
        beyond.due("has(5)", beyond.folk.has(5), 999);
        Check hundred = atDay(899);
        hundred.due("days(100)", hundred.folk.days(100), 100);
        hundred.due("has(5)", hundred.folk.has(5), 999);
        Check above = atDay(900);
        above.refused("days(100) at DAY 900", 3, () -> above.folk.days(100), -1);
        above.due("days(99)", above.folk.days(99), 99);
        above.due("has(5)", above.folk.has(5), 999);
        above.due("kept(39, 0): the last meeting's DAY", above.folk.kept(39, 0), 998);
    }

    /** "At first it is DAY 0, all purses 5." */
    private static void atFirst() {
        Check run = Check.of("II at first", PAIR);
        run.due("has(5)", run.folk.has(5), 0);
        run.due("being(0, 3)", run.folk.being(0, 3), 5);
        run.due("being(1, 3)", run.folk.being(1, 3), 5);
        run.due("being(0, 4)", run.folk.being(0, 4), 0);
        run.folk.days(9);
        run.folioGood(PAIR, 5);
        run.due("has(5) again", run.folk.has(5), 0);
        run.due("being(0, 3) again", run.folk.being(0, 3), 5);
        run.due("being(0, 4) again", run.folk.being(0, 4), 0);
    }

    private static void evictedTo(String text, int cell, int refuge) {
        Check run = Check.of("II EVICTED", text);
        run.due("gloss(0, " + cell + ") of " + text, run.folk.gloss(0, cell), refuge);
        run.due("being(0, 1)", run.folk.being(0, 1), refuge);
        run.due("being(0, 0)", run.folk.being(0, 0), 0);
        run.due("cell(0, " + cell + ", 0)", run.folk.cell(0, cell, 0), 1);
        run.due("has(10)", run.folk.has(10), 1);
        run.due("status(2)", run.folk.status(2), 0);
    }

    /** "EVICTED, to the nearest other CELL of its LEAF without a GLOSS, on which none stands, of like ones the lesser one". */
    private static void evicted() {
        evictedTo("folio 2 cells 3;being a on 0 at 1 trade 0;", 1, 0);
        evictedTo("folio 2 cells 3;being a on 0 at 1 trade 0;gloss 0 0;", 1, 2);
        evictedTo("folio 2 cells 3;being a on 0 at 1 trade 0;being b on 0 at 0 trade 0;", 1, 2);
        evictedTo("folio 2 cells 3;being a on 0 at 1 trade 0;gloss 1 0;being b on 1 at 2 trade 0;", 1, 0);
        evictedTo("folio 2 cells 2;being a on 0 at 0 trade 0;", 0, 1);
        evictedTo("folio 2 cells 2;being a on 0 at 1 trade 0;", 1, 0);
        evictedTo("folio 1 cells 8;being a on 0 at 2 trade 0;gloss 0 1;gloss 0 0;", 2, 3);
        evictedTo("folio 1 cells 8;being a on 0 at 2 trade 0;gloss 0 1;gloss 0 3;", 2, 0);
        evictedTo("folio 1 cells 8;being a on 0 at 2 trade 0;gloss 0 1;gloss 0 3;gloss 0 0;", 2, 4);
        String inner = "gloss 0 1;gloss 0 2;gloss 0 3;gloss 0 4;gloss 0 5;gloss 0 6;";
        evictedTo("folio 1 cells 8;being a on 0 at 0 trade 0;" + inner, 0, 7);
        evictedTo("folio 1 cells 8;being a on 0 at 7 trade 0;" + inner, 7, 0);
    }

    /** "if there is none, no GLOSS can be written". */
    private static void notEvicted() {
        String[] texts = {"folio 2 cells 2;being a on 0 at 0 trade 0;gloss 0 1;", "folio 2 cells 2;being a on 0 at 0 trade 0;being b on 0 at 1 trade 0;",
            "folio 2 cells 3;being a on 0 at 0 trade 0;being b on 0 at 1 trade 0;gloss 0 2;"};
        for (String text : texts) {
            Check run = Check.of("II not EVICTED", text);
            run.refused("gloss(0, 0) of " + text, 2, () -> run.folk.gloss(0, 0), -1);
            run.due("being(0, 1)", run.folk.being(0, 1), 0);
            run.due("gloss(1, 0): none there", run.folk.gloss(1, 0), 100);
        }
    }

    private static long next(long x) {
        return BigInteger.valueOf(1103515245L).multiply(BigInteger.valueOf(x)).add(BigInteger.valueOf(12345L))
                .mod(BigInteger.ONE.shiftLeft(31)).longValueExact();
    }

    private static long drawn(long x, int m) {
        return x / 64 % m;
    }

    private static int seedThatDraws(int hundredth) {
        int seed = 0;
        while (drawn(next(seed), 100) != hundredth) {
            seed++;
        }
        return seed;
    }

    /** "ahead of each a DRAW of 100: below thumb": a DRAW of d is below thumb d + 1, not below thumb d. */
    private static void thumbEdge() {
        for (int d : new int[] {0, 1, 50, 98, 99}) {
            for (int thumb = d; thumb <= d + 1; thumb++) {
                Check run = Check.of("II a DRAW of " + d, "folio 1 cells 2;being a on 0 at 0 trade 0;thumb " + thumb + ";");
                run.due("seed", run.folk.seed(seedThatDraws(d)), true);
                run.due("chance(1), thumb " + thumb, run.folk.chance(1), thumb - d);
                run.due("being(0, 3), thumb " + thumb, run.folk.being(0, 3), thumb == d ? 5 : 2);
            }
        }
    }

    /** I: "0 without": not even a DRAW of 0 is below it. */
    private static void thumbWithout() {
        Check run = Check.of("II no thumb", "folio 1 cells 2;being a on 0 at 0 trade 0;");
        run.due("seed", run.folk.seed(seedThatDraws(0)), true);
        run.due("chance(1)", run.folk.chance(1), 0);
        run.due("being(0, 3)", run.folk.being(0, 3), 5);
    }

    /** "that one's purse becomes half (floor)". */
    private static void thumbHalf() {
        int[][] halves = {{0, 0}, {1, 0}, {2, 1}, {3, 1}, {5, 2}, {9998, 4999}, {9999, 4999}};
        for (int[] half : halves) {
            Check run = Check.of("II half of " + half[0], "folio 1 cells 2;corn 0;being a on 0 at 0 trade 0;thumb 100;");
            run.tape(Check.sealed(0, 0, 0, 0, 0, half[0] / 256, half[0] % 256, 0, 0));
            run.due("on()", run.folk.on(), true);
            run.due("chance(1)", run.folk.chance(1), 1);
            run.due("being(0, 3)", run.folk.being(0, 3), half[1]);
        }
        Check ahead = Check.of("II a thumb is ahead of its DAY", "folio 1 cells 2;corn 10;being a on 0 at 0 trade 0;thumb 100;");
        ahead.due("chance(2)", ahead.folk.chance(2), 2);
        ahead.due("being(0, 3): 5, 2, 12, 6, 16", ahead.folk.being(0, 3), 16);
    }

    /** "if there are BEINGS, a DRAW of these". */
    private static void thumbOfWhom() {
        StringBuilder text = new StringBuilder("folio 1 cells 8;corn 0;thumb 100;");
        for (int beings = 1; beings <= 8; beings++) {
            text.append("being ").append((char) ('a' + beings)).append(" on 0 at ").append(beings - 1).append(" trade 0;");
            for (int seed = 0; seed < 12; seed++) {
                Check run = Check.of("II a DRAW of " + beings, text.toString());
                run.folk.seed(seed);
                run.due("chance(1)", run.folk.chance(1), 1);
                long whom = drawn(next(next(seed)), beings);
                for (int k = 0; k < beings; k++) {
                    run.due("being(" + k + ", 3) by seed " + seed, run.folk.being(k, 3), k == whom ? 2 : 5);
                }
            }
        }
    }

    /** Without BEINGS there is the DRAW of 100 alone: the seed goes on by one DRAW a DAY. */
    private static void thumbWithoutBeings() {
        for (int days = 1; days <= 6; days++) {
            long x = 1;
            for (int k = 0; k <= days; k++) {
                x = next(x);
            }
            long d = drawn(x, 100);
            for (long thumb = d; thumb <= d + 1; thumb++) {
                Check run = Check.of("II no BEINGS", "folio 1 cells 2;thumb 100;");
                run.due("chance(" + days + ")", run.folk.chance(days), 0);
                run.folioGood("folio 1 cells 2;being a on 0 at 0 trade 0;thumb " + thumb + ";", 3);
                run.due("chance(1), thumb " + thumb, run.folk.chance(1), thumb - d);
            }
        }
    }

    /** "The last 20 can be undone." */
    private static void lastTwenty() {
        for (int acts : new int[] {19, 20, 21, 22, 40, 41}) {
            Check run = Check.of("II " + acts + " ACTS", "folio 6 cells 8;");
            for (int k = 0; k < acts; k++) {
                run.due("gloss", run.folk.gloss(k / 8, k % 8), 100);
            }
            int most = Math.min(20, acts);
            run.due("has(10)", run.folk.has(10), most);
            for (int k = 1; k <= most; k++) {
                run.due("undo()", run.folk.undo(), true);
                run.due("has(2)", run.folk.has(2), acts - k);
                run.due("has(10)", run.folk.has(10), most - k);
            }
            run.due("undo() once more", run.folk.undo(), false);
            run.due("status(4)", run.folk.status(4), 1);
            run.due("has(2)", run.folk.has(2), acts - most);
        }
    }

    /** An ACT of each kind is one, whatever it does; what is refused is none. */
    private static void actsOfEachKind() {
        Check run = Check.of("II ACTS", PAIR + "thumb 100;");
        run.due("days(100)", run.folk.days(100), 100);
        run.due("has(10)", run.folk.has(10), 1);
        run.due("chance(100)", run.folk.chance(100), 100);
        run.due("has(10)", run.folk.has(10), 2);
        run.due("go(0, 0, 1)", run.folk.go(0, 0, 1), true);
        run.due("has(10)", run.folk.has(10), 3);
        run.due("gloss(0, 0)", run.folk.gloss(0, 0), 100);
        run.due("has(10)", run.folk.has(10), 4);
        run.folk.days(0);
        run.folk.days(101);
        run.folk.chance(0);
        run.folk.chance(101);
        run.folk.go(0, 0, 0);
        run.folk.gloss(0, 0);
        run.folk.seed(7);
        run.due("has(10): refused ones are no ACTS", run.folk.has(10), 4);
        run.due("undo() of gloss", run.folk.undo(), true);
        run.due("has(2)", run.folk.has(2), 0);
        run.due("undo() of go", run.folk.undo(), true);
        run.due("being(0, 1)", run.folk.being(0, 1), 0);
        run.due("undo() of chance", run.folk.undo(), true);
        run.due("has(5)", run.folk.has(5), 100);
        run.due("undo() of days", run.folk.undo(), true);
        run.due("has(5)", run.folk.has(5), 0);
        run.due("has(7)", run.folk.has(7), 10);
        run.due("has(10)", run.folk.has(10), 0);
    }

    /** "KEPT is each meeting: ..; the last 40 are told." */
    private static void lastForty() {
        for (int days : new int[] {1, 39, 40, 41, 79, 80, 81, 100}) {
            Check run = Check.of("II " + days + " meetings", PAIR);
            run.due("days", run.folk.days(days), days);
            int told = Math.min(40, days);
            run.due("has(8)", run.folk.has(8), told);
            run.due("kept(0, 0)", run.folk.kept(0, 0), days - told);
            run.due("kept(" + (told - 1) + ", 0)", run.folk.kept(told - 1, 0), days - 1);
            run.due("kept(" + told + ", 0)", run.folk.kept(told, 0), -1);
        }
    }

    /** Four pairs a DAY, by the number of the first, then of the second one; 41 of them leave the oldest out. */
    private static void keptOfOneDay() {
        Check run = Check.of("II meetings of one DAY", "folio 3 cells 2;opens 3;corn 0;being a on 1 at 0 trade 0;being b on 2 at 1 trade 0;"
                + "being c on 0 at 1 trade 0;being d on 1 at 1 trade 0;being e on 2 at 0 trade 0;being f on 0 at 0 trade 0;");
        int[][] pairs = {{0, 1}, {0, 2}, {3, 4}, {3, 5}};
        run.due("days(10)", run.folk.days(10), 40);
        run.due("has(8)", run.folk.has(8), 40);
        for (int k = 0; k < 4; k++) {
            run.due("kept(" + k + ", 0)", run.folk.kept(k, 0), 0);
            run.due("kept(" + k + ", 1)", run.folk.kept(k, 1), pairs[k][0]);
            run.due("kept(" + k + ", 2)", run.folk.kept(k, 2), pairs[k][1]);
        }
        run.due("go(5, 0, 0) is refused", run.folk.go(5, 0, 0), false);
        run.due("go(2, 2, 1) is refused", run.folk.go(2, 2, 1), false);
        run.due("gloss(0, 0)", run.folk.gloss(0, 0), -1);
        run.due("days(1)", run.folk.days(1), 4);
        run.due("has(8)", run.folk.has(8), 40);
        run.due("kept(0, 0)", run.folk.kept(0, 0), 1);
        run.due("kept(0, 1)", run.folk.kept(0, 1), 0);
        run.due("kept(39, 0)", run.folk.kept(39, 0), 10);
        run.due("kept(39, 1)", run.folk.kept(39, 1), 3);
        run.due("kept(39, 2)", run.folk.kept(39, 2), 5);
    }

    /** "x (the seed) becomes (1103515245 x + 12345) mod 2 to the 31; floor(x / 64) mod m". */
    private static void draws() {
        int[] seeds = {0, 1, 63, 64, 12345, 1 << 30, (1 << 30) - 1, Integer.MAX_VALUE - 1, Integer.MAX_VALUE};
        for (int seed : seeds) {
            Check run = Check.of("II DRAWS", "folio 1 cells 2;corn 0;being a on 0 at 0 trade 0;thumb 50;");
            run.due("seed(" + seed + ")", run.folk.seed(seed), true);
            long x = seed;
            for (int k = 0; k < 60; k++) {
                x = next(x);
                boolean thumb = drawn(x, 100) < 50;
                x = thumb ? next(x) : x;
                run.due("chance(1) number " + k + " by seed " + seed, run.folk.chance(1), thumb ? 1 : 0);
            }
        }
    }
}
