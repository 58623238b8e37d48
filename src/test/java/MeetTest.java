/** Promises 11 to 14: who meets whom. */
public final class MeetTest {
    private static final String CHAIN = "folio 4 cells 3;being a on 0 at 0 trade 4;being b on 1 at 2 trade 0;"
            + "being c on 2 at 0 trade 9;being d on 3 at 2 trade 1;";

    public static void main(String[] args) {
        meets();
        pairs();
        apart();
        reading();
        Check.finish();
    }

    private static void meets() {
        boolean[][] lie = {{false, true, true}, {false, false, true}, {true, false, false}, {true, true, false}, {true, true, true}};
        for (int opening = 0; opening < lie.length; opening++) {
            Check run = Check.of("11 meets at OPENING " + opening, CHAIN + "opens " + opening + ";");
            for (int one = 0; one < 4; one++) {
                for (int other = 0; other < 4; other++) {
                    boolean side = Math.abs(one - other) == 1;
                    int want = one == other ? -1 : side && lie[opening][Math.min(one, other)] ? 1 : 0;
                    run.due("meets(" + one + ", " + other + ")", run.folk.meets(one, other), want);
                }
            }
            run.due("meets(0, 4)", run.folk.meets(0, 4), -1);
            run.due("meets(-1, 0)", run.folk.meets(-1, 0), -1);
        }
        Check apart = Check.of("11 CELLS that do not lie on one another",
                "folio 2 cells 4;being a on 0 at 1 trade 0;being b on 1 at 1 trade 0;being c on 1 at 2 trade 0;opens 2;");
        apart.due("meets(0, 1)", apart.folk.meets(0, 1), 0);
        apart.due("meets(0, 2)", apart.folk.meets(0, 2), 1);
    }

    private static void pairs() {
        Check run = Check.of("12 pairs", CHAIN + "opens 3;");
        int[] want = {2, 1, 1, 2, 3};
        for (int opening = 0; opening < want.length; opening++) {
            run.due("pairs(" + opening + ")", run.folk.pairs(opening), want[opening]);
        }
        run.due("pairs(-1)", run.folk.pairs(-1), 2);
        run.due("pairs(5)", run.folk.pairs(5), -1);
        run.due("pairs(-2)", run.folk.pairs(-2), -1);
        run.due("nothing passed", run.folk.has(5), 0);
        Check without = new Check("12 no folio");
        without.due("pairs(0)", without.folk.pairs(0), -1);
    }

    private static void apart() {
        Check run = Check.of("13 apart", CHAIN);
        run.due("apart()", run.folk.apart(), 1);
        Check two = Check.of("13 apart", "folio 3 cells 2;being a on 1 at 0 trade 0;being b on 2 at 1 trade 0;");
        two.due("apart()", two.folk.apart(), 1);
        two.due("go", two.folk.go(0, 0, 0), true);
        two.due("apart() of like ones the least", two.folk.apart(), 0);
        Check without = new Check("13 no folio");
        without.due("apart()", without.folk.apart(), -1);
    }

    private static void reading() {
        Check run = Check.of("14 reading", CHAIN + "opens 4;");
        for (int n = 1; n <= 3; n++) {
            run.due("reading(" + n + ", -1)", run.folk.reading(n, -1), n);
            for (int k = 0; k < n; k++) {
                run.due("reading(" + n + ", " + k + ")", run.folk.reading(n, k), 1);
            }
            run.due("reading(" + n + ", " + n + ")", run.folk.reading(n, n), -1);
        }
        run.due("reading(0, -1)", run.folk.reading(0, -1), -1);
        run.due("reading(4, -1)", run.folk.reading(4, -1), -1);
        run.due("reading(1, -2)", run.folk.reading(1, -2), -1);
        run.due("all stays", run.folk.has(5), 0);
        run.due("all stays", run.folk.being(0, 4), 0);
        Check without = new Check("14 no folio");
        without.due("reading(1, -1)", without.folk.reading(1, -1), -1);
        readingWithSteps();
        readingByTheLast();
        readingByLastDays();
    }

    /** Steps of open LEAVES move a and b so that a first DAY that costs nothing costs more later. */
    private static void readingWithSteps() {
        // DAY 0 at OPENING 0: a (leaf 0, open) steps to 1; at 1 both step; at 2 b (leaf 1, open) steps.
        Check run = Check.of("14 reading with steps", "folio 2 cells 3;being a on 0 at 0 trade 0;"
                + "being b on 1 at 1 trade 0;opens 2;steps open=1;");
        run.due("reading(1, -1)", run.folk.reading(1, -1), 0);
        run.due("reading(2, -1)", run.folk.reading(2, -1), 0);
        run.due("reading(2, 0)", run.folk.reading(2, 0), 0);
        run.due("reading(2, 1)", run.folk.reading(2, 1), 0);
        run.due("pairs(2)", run.folk.pairs(2), 0);
        run.due("opening 2 lets b step", run.folk.days(1), 0);
        run.due("being(1, 1)", run.folk.being(1, 1), 2);
        run.due("pairs(2) now", run.folk.pairs(2), 1);
        run.due("reading(1, 0)", run.folk.reading(1, 0), 0);
    }

    /** On DAY 0 none MEET; p steps so that it meets q; only OPENING 4 keeps the LEAVES 2 and 3 apart on DAY 1. */
    private static void readingByTheLast() {
        Check run = Check.of("14 reading by the last OPENING", "folio 4 cells 8;being p on 0 at 0 trade 1;being q on 1 at 6 trade 0;"
                + "being ra on 2 at 0 trade 0;being sa on 3 at 6 trade 2;being rb on 2 at 2 trade 3;being sb on 3 at 4 trade 0;"
                + "steps trade=1 or trade=2 and open=0 or trade=3 and open=1;opens 4;");
        run.due("reading(1, -1)", run.folk.reading(1, -1), 0);
        run.due("reading(1, 0)", run.folk.reading(1, 0), 0);
        run.due("reading(2, -1)", run.folk.reading(2, -1), 0);
        run.due("reading(2, 0)", run.folk.reading(2, 0), 4);
        run.due("reading(2, 1)", run.folk.reading(2, 1), 0);
    }

    private static void readingByLastDays() {
        Check run = Check.of("14 reading near DAY 999", "folio 2 cells 3;");
        run.tape(Check.sealed(3, 0xe5, 0, 0));
        run.due("on(): DAY 997", run.folk.on(), true);
        run.due("has(5)", run.folk.has(5), 997);
        run.due("reading(2, -1)", run.folk.reading(2, -1), 0);
        run.due("reading(3, -1)", run.folk.reading(3, -1), -1);
    }
}
