/** Promises 1 to 32: the arguments of each call, at the last that can be and one beyond it. */
public final class EdgeCallTest {
    private static final int LOW = Integer.MIN_VALUE;
    private static final int HIGH = Integer.MAX_VALUE;
    private static final String SMALL = "folio 2 cells 3;";
    private static final String TRIO = "folio 3 cells 3;gloss 2 2;worm 0 1 0;opens 3;being ab on 0 at 0 trade 4;being cdefgh on 1 at 2 trade 0;"
            + "being i on 2 at 0 trade 9;";

    public static void main(String[] args) {
        newObject();
        feedFull();
        feedKeepsTheTape();
        feedOrder();
        endOfTheTape();
        endKeepsTheTape();
        folioAsAtFirst();
        folioKeepsTheSeed();
        faultWhat();
        hasWhat();
        letters();
        beings();
        cells();
        kept();
        keptNothing();
        meets();
        pairs();
        laterWho();
        ways();
        goRefused();
        goEdges();
        glossRefused();
        glossEdges();
        daysAtOnce();
        daysWithoutFolio();
        chanceDrawsNothing();
        undoNone();
        undoAgain();
        seeds();
        seedStays();
        statusWhat();
        statusOfEach();
        Check.finish();
    }

    /** Promise 1: "No folio, no beings." */
    private static void newObject() {
        Check run = new Check("1 a new object");
        run.due("has(0)", run.folk.has(0), 0);
        run.due("has(4)", run.folk.has(4), 0);
        run.due("has(6)", run.folk.has(6), 0);
        run.due("letter(0, 0)", run.folk.letter(0, 0), -1);
        run.due("being(0, 0)", run.folk.being(0, 0), -1);
        run.due("cell(0, 0, 0)", run.folk.cell(0, 0, 0), -1);
        run.due("meets(0, 1)", run.folk.meets(0, 1), -1);
        run.due("later(0, 0, 0)", run.folk.later(0, 0, 0), -1);
        run.due("way(0, 0, 0)", run.folk.way(0, 0, 0), -1);
        run.due("MarginFolk.NONE", MarginFolk.NONE, -1);
        run.due("MarginFolk.NOTHING", MarginFolk.NOTHING, -1000000000000000L);
    }

    /** Promise 2: "NONE, refused (0), if there would be more than 1600". */
    private static void feedFull() {
        Check run = new Check("2 feed");
        for (int k = 1; k <= 80; k++) {
            run.due("feed number " + k, run.folk.feed(k, k, k, k, k), 20 * k);
        }
        run.refused("feed number 81", 0, () -> run.folk.feed(0, 0, 0, 0, 0), -1);
        run.due("end(1600): all of it is there", run.folk.end(1600), true);
        run.due("end(1581)", run.folk.end(1581), true);
        run.refused("feed at 1581", 0, () -> run.folk.feed(0, 0, 0, 0, 0), -1);
        run.due("end(1580)", run.folk.end(1580), true);
        run.due("feed at 1580", run.folk.feed(0, 0, 0, 0, 0), 1600);
        run.due("end(1)", run.folk.end(1), true);
        run.due("feed at 1", run.folk.feed(0, 0, 0, 0, 0), 21);
        run.due("status(0)", run.folk.status(0), 2);
    }

    /** What is refused changes nothing of what is there. */
    private static void feedKeepsTheTape() {
        Check run = new Check("2 feed keeps the tape");
        run.tape("folio 3 cells 4;" + " ".repeat(1584));
        run.due("feed", run.folk.feed(0x3f3f3f3f, 0, 0, 0, 0), -1);
        run.due("folio()", run.folk.folio(), 1);
        run.due("has(1)", run.folk.has(1), 4);
        run.due("feed: the tape went", run.folk.feed(0, 0, 0, 0, 0), 20);
    }

    /** "of each number the highest first": a byte of 255 and one of 10 to see them by. */
    private static void feedOrder() {
        Check run = new Check("2 feed");
        run.due("feed", run.folk.feed(0x0a0a0aff, 0x0a0a0a0a, -1, -1, -1), 20);
        run.folioFaultOfTape(1, 3);
        run.due("feed", run.folk.feed(0xff0a0a0a, 0, 0, 0, 0), 20);
        run.folioFaultOfTape(1, 0);
        run.due("feed", run.folk.feed(0x20202020, 0x20202020, 0x0a0a0a0a, 0x0a0a0a0a, 0x20200a80), 20);
        run.folioFaultOfTape(1, 19);
    }

    /** Promise 3: "false, refused (0), if it has not so many, or n is below 0". */
    private static void endOfTheTape() {
        Check run = new Check("3 end");
        run.due("end(0) of none", run.folk.end(0), true);
        run.refused("end(1) of none", 0, () -> run.folk.end(1) ? 1 : 0, 0);
        run.due("feed", run.folk.feed(0, 0, 0, 0, 0), 20);
        run.refused("end(21)", 0, () -> run.folk.end(21) ? 1 : 0, 0);
        run.refused("end(-1)", 0, () -> run.folk.end(-1) ? 1 : 0, 0);
        run.refused("end(LOW)", 0, () -> run.folk.end(LOW) ? 1 : 0, 0);
        run.refused("end(HIGH)", 0, () -> run.folk.end(HIGH) ? 1 : 0, 0);
        run.due("end(20)", run.folk.end(20), true);
        run.due("end(19)", run.folk.end(19), true);
        run.refused("end(20): the last byte went", 0, () -> run.folk.end(20) ? 1 : 0, 0);
        run.due("end(0)", run.folk.end(0), true);
        run.due("end(1)", run.folk.end(1), false);
        run.due("status(0)", run.folk.status(0), 7);
    }

    private static void endKeepsTheTape() {
        Check run = new Check("3 end keeps the tape");
        run.tape("folio 3 cells 4;");
        run.due("end(17)", run.folk.end(17), false);
        run.due("end(-1)", run.folk.end(-1), false);
        run.due("folio()", run.folk.folio(), 1);
    }

    /** Promise 4: "Without one all is as at first, nothing is KEPT, SEEN or can be undone". */
    private static void folioAsAtFirst() {
        Check run = Check.standing("4 folio");
        run.due("has(8)", run.folk.has(8), 2);
        run.due("has(9)", run.folk.has(9), 1);
        run.due("has(10)", run.folk.has(10), 2);
        run.folioGood("folio 2 cells 3;being b on 1 at 1 trade 3;", 2);
        int[] due = {2, 3, 0, 0, 1, 0, 0, 5, 0, 0, 0, -1};
        for (int what = 0; what < due.length; what++) {
            run.due("has(" + what + ")", run.folk.has(what), due[what]);
        }
        run.due("being(0, 2)", run.folk.being(0, 2), 3);
        run.due("being(1, 2)", run.folk.being(1, 2), -1);
        run.due("kept(0, 0)", run.folk.kept(0, 0), -1);
        run.due("lay(1): nothing is SEEN", run.folk.lay(1), 7);
        run.due("undo()", run.folk.undo(), false);
        run.due("later(0, 5, 0): no steps", run.folk.later(0, 5, 0), 1);
        run.due("cell(0, 0, 0)", run.folk.cell(0, 0, 0), 0);
        run.due("cell(1, 0, 0)", run.folk.cell(1, 0, 0), 0);
    }

    /** "the seed stays": behind a folio() with and without a FAULT it goes on as if there were none. */
    private static void folioKeepsTheSeed() {
        String text = "folio 1 cells 2;being a on 0 at 0 trade 0;thumb 50;";
        for (int seed = 0; seed < 12; seed++) {
            Check one = Check.of("4 the seed stays", text);
            Check other = Check.of("4 the seed stays", text);
            one.folk.seed(seed);
            other.folk.seed(seed);
            for (int k = 0; k < 12; k++) {
                one.due("chance(1)", one.folk.chance(1), other.folk.chance(1));
                other.tape(k % 2 == 0 ? text : "?");
                other.due("folio()", other.folk.folio(), k % 2 == 0 ? 3 : -1);
            }
        }
    }

    /** Promise 5: "its FAULT (what 0; 0 without, and ahead of any), its place (1; NONE without). NONE for another what". */
    private static void faultWhat() {
        Check run = new Check("5 fault");
        run.due("fault(0) ahead of any", run.folk.fault(0), 0);
        run.due("fault(1) ahead of any", run.folk.fault(1), -1);
        run.folioFault("", 1, 0);
        for (int what : new int[] {LOW, -1, 2, 3, HIGH}) {
            run.due("fault(" + what + ")", run.folk.fault(what), -1);
        }
        run.folioGood(SMALL, 1);
        run.askFault("total", 1, 5);
        run.folioFault("folio 0", 2, 6);
        run.ask("total 1", 0);
        run.due("fault(1)", run.folk.fault(1), -1);
        run.askFault("((((((( 1", 1, 0);
    }

    /** Promise 6: 0 to 10, "NONE for others". */
    private static void hasWhat() {
        Check run = Check.of("6 has", TRIO);
        int[] due = {3, 3, 1, 1, 3, 0, 3, 15, 0, 0, 0};
        for (int what = 0; what < due.length; what++) {
            run.due("has(" + what + ")", run.folk.has(what), due[what]);
        }
        for (int what : new int[] {LOW, -2, -1, 11, 12, HIGH}) {
            run.due("has(" + what + ")", run.folk.has(what), -1);
        }
    }

    /** Promise 7: "Letter k (0 .. 5) ..: 1 .. 26; 0 behind it; NONE when there is none such". */
    private static void letters() {
        Check run = Check.of("7 letter", TRIO);
        int[][] due = {{-1, 1, 2, 0, 0, 0, 0, -1}, {-1, 3, 4, 5, 6, 7, 8, -1}, {-1, 9, 0, 0, 0, 0, 0, -1}};
        for (int k = -1; k <= 6; k++) {
            for (int being = 0; being < 3; being++) {
                run.due("letter(" + being + ", " + k + ")", run.folk.letter(being, k), due[being][k + 1]);
            }
            run.due("letter(-1, " + k + ")", run.folk.letter(-1, k), -1);
            run.due("letter(3, " + k + ")", run.folk.letter(3, k), -1);
        }
        for (int far : new int[] {LOW, HIGH}) {
            run.due("letter(" + far + ", 0)", run.folk.letter(far, 0), -1);
            run.due("letter(0, " + far + ")", run.folk.letter(0, far), -1);
        }
    }

    /** Promise 8: "NONE when there is none such, or for others". */
    private static void beings() {
        Check run = Check.of("8 being", TRIO);
        int[][] due = {{-1, 0, 0, 4, 5, 0, 0, -1}, {-1, 1, 2, 0, 5, 0, 0, -1}, {-1, 2, 0, 9, 5, 0, 1, -1}};
        for (int what = -1; what <= 6; what++) {
            for (int being = 0; being < 3; being++) {
                run.due("being(" + being + ", " + what + ")", run.folk.being(being, what), due[being][what + 1]);
            }
            run.due("being(-1, " + what + ")", run.folk.being(-1, what), -1);
            run.due("being(3, " + what + ")", run.folk.being(3, what), -1);
        }
        for (int far : new int[] {LOW, 7, 8, HIGH}) {
            run.due("being(" + far + ", 0)", run.folk.being(far, 0), -1);
            run.due("being(0, " + far + ")", run.folk.being(0, far), -1);
        }
    }

    /** Promise 9: "NONE when there is none such, or for others". */
    private static void cells() {
        Check run = Check.of("9 cell", TRIO);
        int[] first = {-1, 0, 0, 1, 2, -1};
        int[] last = {-1, 1, -1, 1, 0, -1};
        for (int what = -1; what <= 4; what++) {
            run.due("cell(0, 0, " + what + ")", run.folk.cell(0, 0, what), first[what + 1]);
            run.due("cell(2, 2, " + what + ")", run.folk.cell(2, 2, what), last[what + 1]);
            run.due("cell(-1, 0, " + what + ")", run.folk.cell(-1, 0, what), -1);
            run.due("cell(3, 0, " + what + ")", run.folk.cell(3, 0, what), -1);
            run.due("cell(0, -1, " + what + ")", run.folk.cell(0, -1, what), -1);
            run.due("cell(0, 3, " + what + ")", run.folk.cell(0, 3, what), -1);
        }
        for (int far : new int[] {LOW, 8, 32, HIGH}) {
            run.due("cell(" + far + ", 0, 0)", run.folk.cell(far, 0, 0), -1);
            run.due("cell(0, " + far + ", 0)", run.folk.cell(0, far, 0), -1);
            run.due("cell(0, 0, " + far + ")", run.folk.cell(0, 0, far), -1);
        }
    }

    /** Promise 10: "the k-th from the oldest on .. NONE when there is none such, or for others". */
    private static void kept() {
        Check run = Check.of("10 kept", TRIO);
        run.due("days(2)", run.folk.days(2), 4);
        int[][] due = {{-1, 0, 0, 1, -1}, {-1, 0, 1, 2, -1}, {-1, 1, 0, 1, -1}, {-1, 1, 1, 2, -1}};
        for (int what = -1; what <= 3; what++) {
            for (int k = 0; k < 4; k++) {
                run.due("kept(" + k + ", " + what + ")", run.folk.kept(k, what), due[k][what + 1]);
            }
            run.due("kept(-1, " + what + ")", run.folk.kept(-1, what), -1);
            run.due("kept(4, " + what + ")", run.folk.kept(4, what), -1);
        }
        for (int far : new int[] {LOW, 39, 40, HIGH}) {
            run.due("kept(" + far + ", 0)", run.folk.kept(far, 0), -1);
            run.due("kept(0, " + far + ")", run.folk.kept(0, far), -1);
        }
    }

    private static void keptNothing() {
        Check run = Check.of("10 nothing KEPT", SMALL);
        run.due("kept(0, 0)", run.folk.kept(0, 0), -1);
        run.due("days(1)", run.folk.days(1), 0);
        run.due("has(8)", run.folk.has(8), 0);
        run.due("kept(0, 0)", run.folk.kept(0, 0), -1);
    }

    /** Promise 11: "NONE when there are none such, or they are one". */
    private static void meets() {
        Check run = Check.of("11 meets", TRIO);
        int[][] due = {{-1, 1, 0}, {1, -1, 1}, {0, 1, -1}};
        for (int one = 0; one < 3; one++) {
            for (int other = 0; other < 3; other++) {
                run.due("meets(" + one + ", " + other + ")", run.folk.meets(one, other), due[one][other]);
            }
            for (int none : new int[] {LOW, -1, 3, 8, HIGH}) {
                run.due("meets(" + one + ", " + none + ")", run.folk.meets(one, none), -1);
                run.due("meets(" + none + ", " + one + ")", run.folk.meets(none, one), -1);
            }
        }
    }

    /** Promise 12: "(NONE: as it lies); NONE when there is none such, or without a folio". */
    private static void pairs() {
        Check run = Check.of("12 pairs", TRIO);
        int[] due = {-1, 2, 1, 0, 1, 2, -1};
        for (int opening = -2; opening <= 4; opening++) {
            run.due("pairs(" + opening + ")", run.folk.pairs(opening), due[opening + 2]);
        }
        run.due("pairs(LOW)", run.folk.pairs(LOW), -1);
        run.due("pairs(HIGH)", run.folk.pairs(HIGH), -1);
        Check without = new Check("12 no folio");
        without.due("pairs(-1)", without.folk.pairs(-1), -1);
        without.due("pairs(0)", without.folk.pairs(0), -1);
    }

    /** Promise 15: "NONE when there is none such, n can't be, or for others". */
    private static void laterWho() {
        Check run = Check.of("15 later", TRIO);
        int[] due = {-1, 0, 5, 0, -1};
        for (int what = -1; what <= 3; what++) {
            run.due("later(0, 0, " + what + ")", run.folk.later(0, 0, what), due[what + 1]);
            for (int none : new int[] {LOW, -1, 3, 8, HIGH}) {
                run.due("later(" + none + ", 0, " + what + ")", run.folk.later(none, 0, what), -1);
            }
        }
        run.due("later(2, 60, 2)", run.folk.later(2, 60, 2), 60);
        run.due("later(0, 0, LOW)", run.folk.later(0, 0, LOW), -1);
        run.due("later(0, 0, HIGH)", run.folk.later(0, 0, HIGH), -1);
    }

    /** Promise 17: "NONE when there is none, or there are none such". */
    private static void ways() {
        Check run = Check.of("17 way", TRIO);
        run.due("way(2, 2, 0)", run.folk.way(2, 2, 0), 0);
        run.due("way(0, 0, 2)", run.folk.way(0, 0, 2), 2);
        run.due("way(0, 2, 2): a GLOSS", run.folk.way(0, 2, 2), -1);
        for (int none : new int[] {LOW, -1, 3, 8, 32, HIGH}) {
            run.due("way(" + none + ", 0, 0)", run.folk.way(none, 0, 0), -1);
            run.due("way(0, " + none + ", 0)", run.folk.way(0, none, 0), -1);
            run.due("way(0, 0, " + none + ")", run.folk.way(0, 0, none), -1);
        }
    }

    private static void noGo(int being, int leaf, int cell) {
        Check run = Check.of("22 go", "folio 2 cells 3;gloss 0 1;being a on 0 at 0 trade 1;being b on 1 at 2 trade 2;");
        run.due("go(1, 1, 1)", run.folk.go(1, 1, 1), true);
        run.refused("go(" + being + ", " + leaf + ", " + cell + ")", 2, () -> run.folk.go(being, leaf, cell) ? 1 : 0, 0);
        run.due("undo() of the ACT ahead", run.folk.undo(), true);
        run.due("being(1, 1)", run.folk.being(1, 1), 2);
    }

    /** Promise 22: "false, refused (2), when a BEING stands there, it has a GLOSS, or there are none such". */
    private static void goRefused() {
        noGo(0, 1, 1);
        noGo(0, 0, 0);
        noGo(1, 1, 1);
        noGo(0, 0, 1);
        for (int none : new int[] {LOW, -1, 2, 8, HIGH}) {
            noGo(none, 0, 2);
            noGo(0, none, 2);
        }
        for (int none : new int[] {LOW, -1, 3, 8, 32, HIGH}) {
            noGo(0, 0, none);
        }
        Check without = new Check("22 no folio");
        without.refused("go(0, 0, 0)", 2, () -> without.folk.go(0, 0, 0) ? 1 : 0, 0);
    }

    private static void goEdges() {
        Check run = Check.of("22 go", "folio 6 cells 8;being a on 0 at 0 trade 1;being b on 1 at 2 trade 2;");
        int[][] places = {{0, 1}, {0, 7}, {5, 0}, {5, 7}, {1, 1}, {0, 0}};
        for (int[] place : places) {
            run.due("go(0, " + place[0] + ", " + place[1] + ")", run.folk.go(0, place[0], place[1]), true);
            run.due("being(0, 0)", run.folk.being(0, 0), place[0]);
            run.due("being(0, 1)", run.folk.being(0, 1), place[1]);
            run.due("cell", run.folk.cell(place[0], place[1], 1), 0);
        }
        run.due("go(1, 5, 7): it is left", run.folk.go(1, 5, 7), true);
        run.due("has(5): no DAY passes", run.folk.has(5), 0);
        run.due("has(10)", run.folk.has(10), 7);
        run.due("status(2)", run.folk.status(2), 0);
    }

    private static void noGloss(int leaf, int cell) {
        Check run = Check.of("23 gloss", "folio 2 cells 3;gloss 0 1;gloss 0 2;being a on 0 at 0 trade 1;being b on 1 at 2 trade 2;");
        run.due("go(1, 1, 1)", run.folk.go(1, 1, 1), true);
        run.refused("gloss(" + leaf + ", " + cell + ")", 2, () -> run.folk.gloss(leaf, cell), -1);
        run.due("undo() of the ACT ahead", run.folk.undo(), true);
        run.due("being(1, 1)", run.folk.being(1, 1), 2);
    }

    /** Promise 23: "NONE, refused (2), when there is one, it can't go, or there is no such CELL". */
    private static void glossRefused() {
        noGloss(0, 1);
        noGloss(0, 0);
        for (int none : new int[] {LOW, -1, 2, 8, HIGH}) {
            noGloss(none, 0);
        }
        for (int none : new int[] {LOW, -1, 3, 8, 32, HIGH}) {
            noGloss(1, none);
        }
        Check without = new Check("23 no folio");
        without.refused("gloss(0, 0)", 2, () -> without.folk.gloss(0, 0), -1);
    }

    /** "100 when none was there"; a written GLOSS is one more, the 20 of a FOLIO's text bind it not. */
    private static void glossEdges() {
        Check run = Check.of("23 gloss", "folio 6 cells 8;");
        int[][] places = {{0, 0}, {0, 7}, {5, 0}, {5, 7}};
        for (int k = 0; k < places.length; k++) {
            run.due("gloss", run.folk.gloss(places[k][0], places[k][1]), 100);
            run.due("gloss again", run.folk.gloss(places[k][0], places[k][1]), -1);
            run.due("has(2)", run.folk.has(2), k + 1);
            run.due("cell", run.folk.cell(places[k][0], places[k][1], 0), 1);
        }
        for (int k = 8; k < 40; k++) {
            run.due("gloss", run.folk.gloss(k / 8, k % 8), 100);
        }
        run.due("has(2)", run.folk.has(2), 36);
        run.due("status(2)", run.folk.status(2), 4);
    }

    /** Promises 24, 25: "n DAYS (1 .. 100)"; "NONE, refused (3), when it can't be, or without a folio". */
    private static void daysAtOnce() {
        for (int none : new int[] {LOW, -100, -1, 0, 101, 102, HIGH}) {
            Check run = Check.standing("24, 25 days");
            run.refused("days(" + none + ")", 3, () -> run.folk.days(none), -1);
            run.refused("chance(" + none + ")", 3, () -> run.folk.chance(none), -1);
        }
        for (int n : new int[] {1, 2, 99, 100}) {
            Check run = Check.of("24 days", TRIO);
            run.due("days(" + n + ")", run.folk.days(n), 2 * n);
            run.due("has(5)", run.folk.has(5), n);
            run.due("chance(" + n + ")", run.folk.chance(n), 0);
            run.due("has(5)", run.folk.has(5), 2 * n);
            run.due("has(10)", run.folk.has(10), 2);
            run.due("being(1, 4)", run.folk.being(1, 4), 4 * n);
            run.due("status(3)", run.folk.status(3), 0);
        }
    }

    private static void daysWithoutFolio() {
        Check without = new Check("24, 25 no folio");
        without.refused("days(1)", 3, () -> without.folk.days(1), -1);
        without.refused("chance(1)", 3, () -> without.folk.chance(1), -1);
        without.folioFault("folio 2 cells 3", 1, 15);
        without.refused("days(1) behind a FAULT", 3, () -> without.folk.days(1), -1);
    }

    /** What is refused draws nothing. */
    private static void chanceDrawsNothing() {
        String text = "folio 1 cells 2;being a on 0 at 0 trade 0;thumb 50;";
        Check one = Check.of("25 a refused chance", text);
        Check other = Check.of("25 a refused chance", text);
        for (int k = 0; k < 30; k++) {
            other.due("chance", other.folk.chance(k % 2 == 0 ? 0 : 101), -1);
            other.due("days(1)", other.folk.days(1), 0);
            other.due("chance(1)", other.folk.chance(1), one.folk.chance(1));
        }
    }

    /** Promise 26: "false, refused (4), when none can be". */
    private static void undoNone() {
        Check without = new Check("26 no folio");
        without.refused("undo()", 4, () -> without.folk.undo() ? 1 : 0, 0);
        Check run = Check.of("26 nothing to undo", TRIO);
        run.refused("undo()", 4, () -> run.folk.undo() ? 1 : 0, 0);
        run.due("days(1)", run.folk.days(1), 2);
        run.due("undo()", run.folk.undo(), true);
        run.refused("undo() of no ACT", 4, () -> run.folk.undo() ? 1 : 0, 0);
    }

    /** What was undone is gone; an ACT behind it is the latest one. */
    private static void undoAgain() {
        Check run = Check.of("26 undo", TRIO);
        run.due("gloss(0, 1)", run.folk.gloss(0, 1), 100);
        run.due("days(2)", run.folk.days(2), 4);
        run.due("undo()", run.folk.undo(), true);
        run.due("has(8): KEPT as it was", run.folk.has(8), 0);
        run.due("go(0, 0, 2)", run.folk.go(0, 0, 2), true);
        run.due("has(10)", run.folk.has(10), 2);
        run.due("undo()", run.folk.undo(), true);
        run.due("being(0, 1)", run.folk.being(0, 1), 0);
        run.due("has(2)", run.folk.has(2), 2);
        run.due("undo()", run.folk.undo(), true);
        run.due("has(2)", run.folk.has(2), 1);
        run.due("has(5)", run.folk.has(5), 0);
        run.due("undo()", run.folk.undo(), false);
    }

    /** Promise 27: "true; false, refused (5), when it is below 0". */
    private static void seeds() {
        Check run = Check.standing("27 seed");
        run.refused("seed(-1)", 5, () -> run.folk.seed(-1) ? 1 : 0, 0);
        run.refused("seed(LOW)", 5, () -> run.folk.seed(LOW) ? 1 : 0, 0);
        run.due("seed(0)", run.folk.seed(0), true);
        run.due("seed(1)", run.folk.seed(1), true);
        run.due("seed(HIGH)", run.folk.seed(HIGH), true);
        run.due("status(5)", run.folk.status(5), 2);
        run.due("has(10): no ACT", run.folk.has(10), 2);
    }

    /** A refused seed leaves the one ahead of it; "It is 1 at first". */
    private static void seedStays() {
        String text = "folio 1 cells 2;being a on 0 at 0 trade 0;thumb 50;";
        Check first = Check.of("27 at first", text);
        Check one = Check.of("27 the seed 1", text);
        one.due("seed(1)", one.folk.seed(1), true);
        one.due("seed(-1)", one.folk.seed(-1), false);
        for (int k = 0; k < 40; k++) {
            first.due("chance(1)", first.folk.chance(1), one.folk.chance(1));
            first.due("seed(-7)", first.folk.seed(-7), false);
        }
    }

    /** Promise 32: 0 to 5, "NONE for others". */
    private static void statusWhat() {
        Check run = new Check("32 status");
        for (int what = 0; what <= 5; what++) {
            run.due("status(" + what + ")", run.folk.status(what), 0);
        }
        for (int what : new int[] {LOW, -1, 6, 7, HIGH}) {
            run.due("status(" + what + ")", run.folk.status(what), -1);
        }
    }

    /** "0 feed(), end(); 1 folio(), see(); 2 go(), gloss(); 3 days(), chance(); 4 undo(); 5 seed(), on()": no other call is refused. */
    private static void statusOfEach() {
        Check run = Check.of("32 status", TRIO);
        run.folk.fault(9);
        run.folk.has(99);
        run.folk.letter(9, 9);
        run.folk.being(9, 9);
        run.folk.cell(9, 9, 9);
        run.folk.kept(99, 9);
        run.folk.meets(9, 9);
        run.folk.pairs(9);
        run.folk.reading(9, 9);
        run.folk.later(9, 99, 9);
        run.folk.opening(99);
        run.folk.way(9, 9, 9);
        run.folk.lay(9);
        run.folk.after(9);
        run.folk.trim(9, 9);
        run.folk.octet(999);
        run.folk.status(9);
        run.askFault("?", 1, 0);
        for (int what = 0; what <= 5; what++) {
            run.due("status(" + what + ")", run.folk.status(what), 0);
        }
    }
}
