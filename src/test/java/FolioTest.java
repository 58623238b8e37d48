/** Promises 1 to 5: a new object, the tape, folios and their FAULTS. */
public final class FolioTest {
    private static final String HEAD = "folio 3 cells 4;";

    public static void main(String[] args) {
        newObject();
        tape();
        goodFolios();
        firstFaults();
        numbers();
        names();
        depths();
        tooMany();
        staysAndGoes();
        Check.finish();
    }

    private static void newObject() {
        Check run = new Check("1 a new object");
        for (int what = 0; what <= 10; what++) {
            run.due("has(" + what + ")", run.folk.has(what), 0);
        }
        for (int what = 0; what <= 5; what++) {
            run.due("status(" + what + ")", run.folk.status(what), 0);
        }
        run.due("fault(0)", run.folk.fault(0), 0);
        run.due("fault(1)", run.folk.fault(1), -1);
        run.due("being(0, 0)", run.folk.being(0, 0), -1);
        run.due("octet(0)", run.folk.octet(0), -1);
        run.due("end(0)", run.folk.end(0), true);
        run.due("end(1)", run.folk.end(1), false);
    }

    private static void tape() {
        Check run = new Check("2, 3 the tape");
        for (int k = 1; k <= 80; k++) {
            run.due("feed", run.folk.feed(0, 0, 0, 0, 0), 20 * k);
        }
        run.due("feed beyond 1600", run.folk.feed(0, 0, 0, 0, 0), -1);
        run.due("status(0)", run.folk.status(0), 1);
        run.due("end(1601)", run.folk.end(1601), false);
        run.due("end(-1)", run.folk.end(-1), false);
        run.due("status(0)", run.folk.status(0), 3);
        run.due("end(1600)", run.folk.end(1600), true);
        run.due("end(1581)", run.folk.end(1581), true);
        run.due("feed: 1601", run.folk.feed(0, 0, 0, 0, 0), -1);
        run.due("end(1580)", run.folk.end(1580), true);
        run.due("feed: 1600", run.folk.feed(0, 0, 0, 0, 0), 1600);
        run.due("end(0)", run.folk.end(0), true);
        run.due("feed: 20", run.folk.feed(0x666f6c69, 0x6f203220, 0x63656c6c, 0x73203320, 0x3b202020), 20);
        run.due("end(17)", run.folk.end(17), true);
        run.due("folio(): of each number the highest byte first", run.folk.folio(), 1);
        run.due("has(0)", run.folk.has(0), 2);
        run.due("has(1)", run.folk.has(1), 3);
        run.due("end(1): the tape went", run.folk.end(1), false);
        run.due("status(0)", run.folk.status(0), 5);
    }

    private static void goodFolios() {
        Check run = new Check("4 folios without a FAULT");
        run.folioGood("folio 1 cells 2;", 1);
        run.folioGood("folio 6 cells 8;", 1);
        run.folioGood("\n folio\n0006\ncells 08 ; \n", 1);
        run.folioGood(HEAD + "thumb 0;thumb 100;thumb 7;", 4);
        run.folioGood(HEAD + "gloss 2 3;worm 2 0 3;worm 2 0 3;worm 0 2 3;", 5);
        run.folioGood(HEAD + "being abcdef on 0 at 0 trade 0;being first on 2 at 3 trade 9;", 3);
        run.folioGood(HEAD + "opens(day)-9999*1/min(day,2)+max(1,2);", 2);
        run.folioGood(HEAD + "corn leaf+cell*trade-purse/open+day;toll leaf+cell+trade+purse+open+day+other;", 3);
        run.folioGood(HEAD + "steps not all and[leaf<cell or trade=purse]or not not open>day;", 2);
        run.folioGood(HEAD + "steps all;", 2);
    }

    private static void firstFaults() {
        Check run = new Check("4, 5 FAULT 1");
        run.folioFault("", 1, 0);
        run.folioFault(" \n ", 1, 3);
        run.folioFault(";", 1, 0);
        run.folioFault("gloss 0 0;", 1, 0);
        run.folioFault("fol", 1, 0);
        run.folioFault("folios 1 cells 2;", 1, 0);
        run.folioFault("Folio 1 cells 2;", 1, 0);
        run.folioFault("folio", 1, 5);
        run.folioFault("folio ", 1, 6);
        run.folioFault("folio3 cells 4;", 1, 5);
        run.folioFault("folio 3cells 4;", 1, 7);
        run.folioFault("folio 3 cells4;", 1, 13);
        run.folioFault("folio 3 cell 4;", 1, 8);
        run.folioFault("folio 3 12345 4;", 1, 8);
        run.folioFault("folio 3 cells 4", 1, 15);
        run.folioFault("folio 3 cells 4 ", 1, 16);
        run.folioFault("folio\t3 cells 4;", 1, 5);
        run.folioFault(HEAD + ";", 1, 16);
        run.folioFault(HEAD + "folio 3 cells 4;", 1, 16);
        run.folioFault(HEAD + "day", 1, 16);
        run.folioFault(HEAD + "opens day", 1, 25);
        run.folioFault(HEAD + "opens da", 1, 22);
        run.folioFault(HEAD + "opens ;", 1, 22);
        run.folioFault(HEAD + "opens leaf;", 1, 22);
        run.folioFault(HEAD + "opens 1 2;", 1, 24);
        run.folioFault(HEAD + "opens 1+;", 1, 24);
        run.folioFault(HEAD + "opens -1;", 1, 22);
        run.folioFault(HEAD + "opens (1;", 1, 24);
        run.folioFault(HEAD + "opens 1);", 1, 23);
        run.folioFault(HEAD + "opens min 1;", 1, 26);
        run.folioFault(HEAD + "opens min(1);", 1, 27);
        run.folioFault(HEAD + "opens max(1,2;", 1, 29);
        run.folioFault(HEAD + "opens max(1,2,3);", 1, 29);
        run.folioFault(HEAD + "opens 1<2;", 1, 23);
        run.folioFault(HEAD + "corn other;", 1, 21);
        run.folioFault(HEAD + "corn number;", 1, 21);
        run.folioFault(HEAD + "corn met;", 1, 21);
        run.folioFault(HEAD + "toll meets 1;", 1, 21);
        run.folioFault(HEAD + "steps other=1;", 1, 22);
        run.folioFault(HEAD + "steps 1;", 1, 23);
        run.folioFault(HEAD + "steps 1<2<3;", 1, 25);
        run.folioFault(HEAD + "steps [all;", 1, 26);
        run.folioFault(HEAD + "steps (all);", 1, 23);
        run.folioFault(HEAD + "steps all all;", 1, 26);
        run.folioFault(HEAD + "steps all and;", 1, 29);
        run.folioFault(HEAD + "steps [1<2]<3;", 1, 27);
        run.folioFault(HEAD + "corn 1a;", 1, 22);
        run.folioFault(HEAD + "corn day1;", 1, 24);
        run.folioFault(HEAD + (char) 200, 1, 16);
        run.due("fault(2)", run.folk.fault(2), -1);
        run.due("fault(-1)", run.folk.fault(-1), -1);
    }

    private static void numbers() {
        Check run = new Check("4, 5 FAULT 2 and numbers");
        run.folioFault("folio 0 cells 4;", 2, 6);
        run.folioFault("folio 7 cells 4;", 2, 6);
        run.folioFault("folio 7cells", 2, 6);
        run.folioFault("folio 9999 cells 4;", 2, 6);
        run.folioFault("folio 00003 cells 4;", 1, 10);
        run.folioFault("folio 3 cells 1;", 2, 14);
        run.folioFault("folio 3 cells 9;", 2, 14);
        run.folioFault(HEAD + "gloss 3 0;", 2, 22);
        run.folioFault(HEAD + "gloss 0 4;", 2, 24);
        run.folioFault(HEAD + "gloss 0 1;gloss 0 1;", 2, 34);
        run.folioFault(HEAD + "worm 3 0 0;", 2, 21);
        run.folioFault(HEAD + "worm 0 3 0;", 2, 23);
        run.folioFault(HEAD + "worm 1 1 0;", 2, 23);
        run.folioFault("folio 1 cells 2;worm 0 0 0;", 2, 23);
        run.folioFault(HEAD + "worm 0 1 4;", 2, 25);
        run.folioFault(HEAD + "being a on 3 at 0 trade 0;", 2, 27);
        run.folioFault(HEAD + "being a on 0 at 4 trade 0;", 2, 32);
        run.folioFault(HEAD + "being a on 0 at 0 trade 10;", 2, 40);
        run.folioFault(HEAD + "being a on 0 at 0 trade 00000;", 1, 44);
        run.folioFault(HEAD + "gloss 0 0;being a on 0 at 0 trade 0;", 2, 42);
        run.folioFault(HEAD + "being a on 0 at 0 trade 0;gloss 0 0;", 2, 50);
        run.folioFault(HEAD + "being a on 0 at 0 trade 0;being b on 0 at 0 trade 0;", 2, 58);
        run.folioFault(HEAD + "thumb 101;", 2, 22);
        run.folioFault(HEAD + "corn 12345;", 1, 25);
        run.folioGood(HEAD + "corn 9999;", 2);
    }

    private static void names() {
        Check run = new Check("4, 5 NAMES");
        String[] own = ("folio cells gloss worm being on at trade opens corn toll steps thumb day leaf cell purse "
                + "open other number met meets or and not all min max").split(" ");
        run.due("OWN WORDS", own.length, 28);
        for (String word : own) {
            run.folioFault(HEAD + "being " + word + " on 0 at 0 trade 0;", 1, 22);
        }
        for (String word : "first last often total most least a zzzzzz onn mi".split(" ")) {
            run.folioGood(HEAD + "being " + word + " on 0 at 0 trade 0;", 2);
        }
        run.folioFault(HEAD + "being abcdefg on 0 at 0 trade 0;", 1, 28);
        run.folioFault(HEAD + "being numbers on 0 at 0 trade 0;", 1, 28);
        run.folioFault(HEAD + "being 1 on 0 at 0 trade 0;", 1, 22);
        run.folioFault(HEAD + "being Ab on 0 at 0 trade 0;", 1, 22);
        run.folioFault(HEAD + "being aB on 0 at 0 trade 0;", 1, 23);
        run.folioFault(HEAD + "being a1 on 0 at 0 trade 0;", 1, 23);
        run.folioFault(HEAD + "being ab on 0 at 0 trade 0;being ab on 0 at 0 trade 0;", 3, 49);
        run.folioFault(HEAD + "being abcdef on 0 at 0 trade 0;being abcdefg", 1, 59);
        run.folioGood(HEAD + "being ab on 0 at 0 trade 0;being a on 0 at 1 trade 0;being ba on 0 at 2 trade 0;", 4);
    }

    private static void depths() {
        Check run = new Check("4, 5 FAULT 4");
        run.folioGood(HEAD + "opens ((((((1))))));", 2);
        run.folioFault(HEAD + "opens (((((((1)))))));", 4, 28);
        run.folioFault(HEAD + "opens (((((((", 4, 28);
        run.folioGood(HEAD + "opens ((((((1))))))+((((((1))))));", 2);
        run.folioGood(HEAD + "opens (((((min(1,2))))));", 2);
        run.folioFault(HEAD + "opens ((((((min(1,2)))))));", 4, 31);
        run.folioGood(HEAD + "opens min((((((1))))),2);", 2);
        run.folioGood(HEAD + "opens min(1,(((((2))))));", 2);
        run.folioFault(HEAD + "opens min(1,((((((2)))))));", 4, 33);
        run.folioFault(HEAD + "opens max((((((( 2", 4, 31);
        run.folioGood(HEAD + "steps not not not not not not all;", 2);
        run.folioFault(HEAD + "steps not not not not not not not all;", 4, 46);
        run.folioGood(HEAD + "steps not not not not not not all and not not not not not not all;", 2);
        run.folioGood(HEAD + "steps [not[not((1))<2]];", 2);
        run.folioFault(HEAD + "steps [not[not(((1)))<2]];", 4, 32);
        run.folioFault(HEAD + "steps [[[[[[[", 4, 28);
        run.folioFault(HEAD + "steps not[[[[[not", 4, 30);
        run.folioGood(HEAD + "steps not((((1))))<2 and((((((1))))))<2;", 2);
        run.folioFault(HEAD + "steps not 1<(((((( 1", 4, 33);
    }

    private static void tooMany() {
        Check run = new Check("4, 5 FAULT 5");
        StringBuilder glosses = new StringBuilder("folio 3 cells 8;");
        for (int k = 0; k < 20; k++) {
            glosses.append("gloss ").append(k / 8).append(' ').append(k % 8).append(';');
        }
        run.folioGood(glosses.toString(), 21);
        run.folioFault(glosses + " gloss", 5, glosses.length() + 1);
        run.folioFault(glosses + "glos", 1, glosses.length());
        String worms = HEAD + "worm 0 1 0;".repeat(12);
        run.folioGood(worms, 13);
        run.folioFault(worms + "worm 0 1 0;", 5, worms.length());
        StringBuilder beings = new StringBuilder("folio 1 cells 8;");
        for (int k = 0; k < 8; k++) {
            beings.append("being ").append((char) ('a' + k)).append(" on 0 at ").append(k).append(" trade 1;");
        }
        run.folioGood(beings.toString(), 9);
        run.folioFault(beings + "being a", 5, beings.length());
        run.folioFault(HEAD + "opens 1;opens", 5, 24);
        run.folioFault(HEAD + "corn 1;corn", 5, 23);
        run.folioFault(HEAD + "toll 1;toll", 5, 23);
        run.folioFault(HEAD + "steps all;steps", 5, 26);
        String all = HEAD + "thumb 1;".repeat(79);
        run.folioGood(all + " \n", 80);
        run.folioFault(all + " thumb 1;", 5, all.length() + 1);
        run.folioFault(all + "?", 5, all.length());
    }

    private static void staysAndGoes() {
        Check run = Check.of("4 what stays", "folio 2 cells 3;being a on 0 at 0 trade 1;steps all;");
        run.folk.seed(77);
        run.due("days(1)", run.folk.days(1), 0);
        run.tape(0, 1);
        run.due("see()", run.folk.see(), 1);
        run.folioFault("folio 2 cells 3;x", 1, 16);
        run.due("status(1)", run.folk.status(1), 1);
        run.due("has(5)", run.folk.has(5), 1);
        run.due("has(9)", run.folk.has(9), 1);
        run.due("has(10)", run.folk.has(10), 1);
        run.due("being(0, 1)", run.folk.being(0, 1), 1);
        run.due("the tape went", run.folk.end(1), false);
        run.folioGood("folio 2 cells 3;being b on 0 at 2 trade 1;being c on 1 at 0 trade 1;opens 2;", 4);
        run.due("has(5)", run.folk.has(5), 0);
        run.due("has(9)", run.folk.has(9), 0);
        run.due("has(10)", run.folk.has(10), 0);
        run.due("being(0, 3)", run.folk.being(0, 3), 5);
        run.due("days(1)", run.folk.days(1), 1);
        run.due("has(8)", run.folk.has(8), 1);
        run.folioGood("folio 2 cells 3;", 1);
        run.due("has(8)", run.folk.has(8), 0);
        run.due("has(4)", run.folk.has(4), 0);
        run.due("has(6)", run.folk.has(6), 0);
        run.due("status(1)", run.folk.status(1), 1);
        seedStays();
    }

    /** By seed 77 the first two DRAWS of 100 differ from those by seed 1: thumbs tell. */
    private static void seedStays() {
        String text = "folio 2 cells 3;being a on 0 at 0 trade 1;thumb 50;";
        for (int seed = 0; seed < 40; seed++) {
            Check run = new Check("4 the seed stays");
            run.folk.seed(seed);
            run.folioGood(text, 3);
            long x = (1103515245L * seed + 12345) % (1L << 31);
            run.due("chance(1) by seed " + seed, run.folk.chance(1), x / 64 % 100 < 50 ? 1 : 0);
        }
    }
}
