/** Promises 22 to 27: acts, the seed, undo. */
public final class ActTest {
    private static final String PAIR = "folio 2 cells 4;opens 2;being a on 0 at 0 trade 3;being b on 1 at 3 trade 1;";

    public static void main(String[] args) {
        go();
        gloss();
        days();
        chance();
        undo();
        undoMany();
        seed();
        Check.finish();
    }

    private static void go() {
        Check run = Check.of("22 go", PAIR + "gloss 0 2;");
        run.due("go(0, 1, 3): b stands there", run.folk.go(0, 1, 3), false);
        run.due("go(0, 0, 0): it stands there", run.folk.go(0, 0, 0), false);
        run.due("go(0, 0, 2): a GLOSS", run.folk.go(0, 0, 2), false);
        run.due("go(2, 0, 1)", run.folk.go(2, 0, 1), false);
        run.due("go(-1, 0, 1)", run.folk.go(-1, 0, 1), false);
        run.due("go(0, 2, 1)", run.folk.go(0, 2, 1), false);
        run.due("go(0, -1, 1)", run.folk.go(0, -1, 1), false);
        run.due("go(0, 0, 4)", run.folk.go(0, 0, 4), false);
        run.due("go(0, 0, -1)", run.folk.go(0, 0, -1), false);
        run.due("status(2)", run.folk.status(2), 9);
        run.due("has(10)", run.folk.has(10), 0);
        run.due("go(0, 1, 1)", run.folk.go(0, 1, 1), true);
        run.due("being(0, 0)", run.folk.being(0, 0), 1);
        run.due("being(0, 1)", run.folk.being(0, 1), 1);
        run.due("cell(0, 0, 1)", run.folk.cell(0, 0, 1), -1);
        run.due("has(10)", run.folk.has(10), 1);
    }

    private static void gloss() {
        Check run = Check.of("23 gloss", "folio 2 cells 4;gloss 0 0;being a on 0 at 2 trade 0;being b on 0 at 3 trade 0;");
        run.due("gloss(0, 0): there is one", run.folk.gloss(0, 0), -1);
        run.due("gloss(2, 0)", run.folk.gloss(2, 0), -1);
        run.due("gloss(-1, 0)", run.folk.gloss(-1, 0), -1);
        run.due("gloss(0, 4)", run.folk.gloss(0, 4), -1);
        run.due("gloss(0, -1)", run.folk.gloss(0, -1), -1);
        run.due("status(2)", run.folk.status(2), 5);
        run.due("gloss(1, 3): none there", run.folk.gloss(1, 3), 100);
        run.due("cell(1, 3, 0)", run.folk.cell(1, 3, 0), 1);
        run.due("gloss(0, 3): b to 1", run.folk.gloss(0, 3), 1);
        run.due("being(1, 1)", run.folk.being(1, 1), 1);
        run.due("gloss(0, 2): a can't go", run.folk.gloss(0, 2), -1);
        run.due("being(0, 1)", run.folk.being(0, 1), 2);
        run.due("cell(0, 2, 0)", run.folk.cell(0, 2, 0), 0);
        run.due("status(2)", run.folk.status(2), 6);
        run.due("has(2)", run.folk.has(2), 3);
        run.due("has(10)", run.folk.has(10), 2);
        Check like = Check.of("23 of like ones the lesser", "folio 1 cells 5;being a on 0 at 2 trade 0;");
        like.due("gloss(0, 2)", like.folk.gloss(0, 2), 1);
        like.due("gloss(0, 1)", like.folk.gloss(0, 1), 0);
        like.due("gloss(0, 0)", like.folk.gloss(0, 0), 3);
        like.due("gloss(0, 3)", like.folk.gloss(0, 3), 4);
        like.due("gloss(0, 4)", like.folk.gloss(0, 4), -1);
        Check many = Check.of("23 more than 20", "folio 6 cells 8;");
        for (int k = 0; k < 48; k++) {
            many.due("gloss", many.folk.gloss(k / 8, k % 8), 100);
        }
        many.due("has(2)", many.folk.has(2), 48);
    }

    private static void days() {
        Check run = Check.of("24 days", PAIR);
        run.due("days(0)", run.folk.days(0), -1);
        run.due("days(-1)", run.folk.days(-1), -1);
        run.due("days(101)", run.folk.days(101), -1);
        run.due("status(3)", run.folk.status(3), 3);
        run.due("days(1)", run.folk.days(1), 1);
        run.due("being(0, 3)", run.folk.being(0, 3), 4);
        run.due("being(1, 3)", run.folk.being(1, 3), 9);
        run.due("being(1, 4)", run.folk.being(1, 4), 1);
        run.due("days(100)", run.folk.days(100), 100);
        run.due("being(1, 4)", run.folk.being(1, 4), 101);
        for (int k = 0; k < 8; k++) {
            run.due("days(100)", run.folk.days(100), 100);
        }
        run.due("has(5)", run.folk.has(5), 901);
        run.due("days(99): beyond DAY 999", run.folk.days(99), -1);
        run.due("status(3)", run.folk.status(3), 4);
        run.due("days(98)", run.folk.days(98), 98);
        run.due("has(5)", run.folk.has(5), 999);
        run.due("days(1) at DAY 999", run.folk.days(1), -1);
        run.due("chance(1) at DAY 999", run.folk.chance(1), -1);
        run.due("pairs(-1) at DAY 999", run.folk.pairs(-1), 1);
        run.due("has(10)", run.folk.has(10), 11);
        Check without = new Check("24 no folio");
        without.due("days(1)", without.folk.days(1), -1);
        without.due("status(3)", without.folk.status(3), 1);
    }

    private static long next(long x) {
        return (1103515245L * x + 12345L) % (1L << 31);
    }

    private static void chance() {
        for (int seed = 0; seed < 30; seed++) {
            Check run = Check.of("25 chance", "folio 1 cells 2;being a on 0 at 0 trade 0;being b on 0 at 1 trade 0;corn 40;thumb 30;");
            run.folk.seed(seed * 71582788);
            long x = seed * 71582788L;
            int[] purse = {5, 5};
            int thumbs = 0;
            for (int day = 0; day < 20; day++) {
                x = next(x);
                if (x / 64 % 100 < 30) {
                    x = next(x);
                    purse[(int) (x / 64 % 2)] /= 2;
                    thumbs++;
                }
                purse[0] += 40;
                purse[1] += 40;
            }
            run.due("chance(20)", run.folk.chance(20), thumbs);
            run.due("being(0, 3)", run.folk.being(0, 3), purse[0]);
            run.due("being(1, 3)", run.folk.being(1, 3), purse[1]);
            run.due("has(5)", run.folk.has(5), 20);
            run.due("has(10)", run.folk.has(10), 1);
        }
        Check ever = Check.of("25 thumb 100", "folio 1 cells 2;being a on 0 at 0 trade 0;thumb 1;thumb 100;");
        ever.due("chance(1)", ever.folk.chance(1), 1);
        ever.due("being(0, 3)", ever.folk.being(0, 3), 2);
        ever.due("chance(100)", ever.folk.chance(100), 100);
        Check never = Check.of("25 thumb 0", "folio 1 cells 2;being a on 0 at 0 trade 0;");
        never.due("chance(100)", never.folk.chance(100), 0);
        Check nobody = Check.of("25 no BEINGS", "folio 1 cells 2;thumb 100;");
        nobody.due("chance(5)", nobody.folk.chance(5), 0);
        nobody.due("chance(0)", nobody.folk.chance(0), -1);
        nobody.due("chance(101)", nobody.folk.chance(101), -1);
        nobody.due("status(3)", nobody.folk.status(3), 2);
        Check without = new Check("25 no folio");
        without.due("chance(1)", without.folk.chance(1), -1);
    }

    private static void undo() {
        Check run = Check.of("26 undo", PAIR + "thumb 50;steps all;");
        run.due("undo()", run.folk.undo(), false);
        run.due("status(4)", run.folk.status(4), 1);
        int[] first = run.image();
        run.due("days(3)", run.folk.days(3), 1);
        int[] second = run.image();
        run.due("gloss(0, 3)", run.folk.gloss(0, 3), 2);
        int[] third = run.image();
        run.due("chance(2)", run.folk.chance(2) >= 0, true);
        run.due("go(1, 1, 0)", run.folk.go(1, 1, 0), true);
        run.due("has(10)", run.folk.has(10), 4);
        run.due("undo()", run.folk.undo(), true);
        run.due("undo()", run.folk.undo(), true);
        same(run, third);
        run.due("undo()", run.folk.undo(), true);
        same(run, second);
        run.due("has(8)", run.folk.has(8), 1);
        run.due("undo()", run.folk.undo(), true);
        same(run, first);
        run.due("has(8)", run.folk.has(8), 0);
        run.due("has(10)", run.folk.has(10), 0);
        run.due("undo()", run.folk.undo(), false);
        run.due("status(4)", run.folk.status(4), 2);
        Check seeds = Check.of("26 the seed stays", "folio 1 cells 2;being a on 0 at 0 trade 0;corn 0;thumb 50;");
        long x = 1;
        for (int k = 0; k < 20; k++) {
            x = next(x);
            boolean thumb = x / 64 % 100 < 50;
            x = thumb ? next(x) : x;
            seeds.due("chance(1)", seeds.folk.chance(1), thumb ? 1 : 0);
            seeds.due("being(0, 3)", seeds.folk.being(0, 3), thumb ? 2 : 5);
            seeds.due("undo()", seeds.folk.undo(), true);
        }
    }

    private static void same(Check run, int[] want) {
        int[] got = run.image();
        run.due("image() behind undo()", java.util.Arrays.equals(got, want), true);
    }

    private static void undoMany() {
        Check run = Check.of("26 the last 20", "folio 6 cells 8;");
        for (int k = 0; k < 25; k++) {
            run.due("gloss", run.folk.gloss(k / 8, k % 8), 100);
            run.due("has(10)", run.folk.has(10), Math.min(20, k + 1));
        }
        for (int k = 24; k >= 5; k--) {
            run.due("undo()", run.folk.undo(), true);
            run.due("has(2)", run.folk.has(2), k);
            run.due("has(10)", run.folk.has(10), k - 5);
        }
        run.due("undo()", run.folk.undo(), false);
        run.due("has(2)", run.folk.has(2), 5);
    }

    private static void seed() {
        Check run = Check.of("27 seed", "folio 1 cells 2;being a on 0 at 0 trade 0;thumb 50;");
        run.due("seed(-1)", run.folk.seed(-1), false);
        run.due("seed(MIN)", run.folk.seed(Integer.MIN_VALUE), false);
        run.due("status(5)", run.folk.status(5), 2);
        run.due("seed(0)", run.folk.seed(0), true);
        for (int seed : new int[] {0, 1, 12345, Integer.MAX_VALUE, Integer.MAX_VALUE - 64, 1 << 30}) {
            run.due("seed(" + seed + ")", run.folk.seed(seed), true);
            run.due("chance(1)", run.folk.chance(1), next(seed) / 64 % 100 < 50 ? 1 : 0);
        }
        Check first = Check.of("27 the seed is 1 at first", "folio 1 cells 2;being a on 0 at 0 trade 0;thumb " + (next(1) / 64 % 100) + ";");
        first.due("chance(1)", first.folk.chance(1), 0);
        Check above = Check.of("27 the seed is 1 at first", "folio 1 cells 2;being a on 0 at 0 trade 0;thumb " + (next(1) / 64 % 100 + 1) + ";");
        above.due("chance(1)", above.folk.chance(1), 1);
    }
}
