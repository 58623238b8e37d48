import java.util.Arrays;

/** Section IV of the document's terms: QUESTIONS and IMAGES, each limit at it and one beyond it. */
public final class EdgeAskTest {
    private static final String CHAIN = "folio 3 cells 3;opens 3;corn 0;being a on 0 at 0 trade 4;being b on 1 at 2 trade 0;being c on 2 at 0 trade 9;";

    public static void main(String[] args) {
        withoutBeings();
        holdsForNone();
        mostAndLeast();
        totals();
        meetsWhom();
        meetsItsPart();
        partsOfQuestions();
        unknownWords();
        whatStandsBehind();
        endsTooSoon();
        digits();
        openAtOnce();
        openAgain();
        faultsStay();
        withoutFolio();
        imageBytes();
        imageNumbers();
        imageGlosses();
        imageLast();
        imageOfNothing();
        octets();
        onEdges();
        onBeyond();
        onPlaces();
        onLength();
        onLastByte();
        onForgets();
        onWithoutFolio();
        onOfFewerLeaves();
        longestAgain();
        Check.finish();
    }

    private static void fault(int code, String marked) {
        Check run = Check.of("IV FAULT " + code, CHAIN);
        String text = marked.replace("@", "");
        run.tape(text);
        run.refused("ask() of " + text, -1, run.folk::ask, MarginFolk.NOTHING);
        run.due("fault(0) of " + text, run.folk.fault(0), code);
        run.due("fault(1) of " + text, run.folk.fault(1), marked.indexOf('@'));
        run.due("the tape goes: feed", run.folk.feed(0, 0, 0, 0, 0), 20);
    }

    private static void answers(String text, long due) {
        Check run = Check.of("IV " + text, CHAIN);
        run.ask(text, due);
        run.due("fault(1)", run.folk.fault(1), -1);
        run.due("the tape goes: feed", run.folk.feed(0, 0, 0, 0, 0), 20);
    }

    /** "most SUM, least SUM (the greatest, the least of all; 0 without BEINGS)"; "NONE of first, last, when its TEST holds for none". */
    private static void withoutBeings() {
        Check run = Check.of("IV no BEINGS", "folio 1 cells 2;");
        run.ask("first all", -1);
        run.ask("last all", -1);
        run.ask("often all", 0);
        run.ask("total 7", 0);
        run.ask("most 7", 0);
        run.ask("least 7", 0);
        run.ask("most 0-7", 0);
        run.ask("least 0-7", 0);
        run.askFault("most 7 7", 1, 7);
    }

    /** "first TEST, last TEST (the first, the last BEING for which it holds), often TEST (for how many)". */
    private static void holdsForNone() {
        answers("first not all", -1);
        answers("last not all", -1);
        answers("often not all", 0);
        answers("first all", 0);
        answers("last all", 2);
        answers("often all", 3);
        answers("first number>1", 2);
        answers("last number<1", 0);
        answers("first number>2", -1);
        answers("last number<0", -1);
        answers("first number=1", 1);
        answers("last number=1", 1);
    }

    /** "most SUM, least SUM (the greatest, the least of all": below 0 too, and of one BEING alone. */
    private static void mostAndLeast() {
        answers("most trade", 9);
        answers("least trade", 0);
        answers("most 0-trade-1", -1);
        answers("least 0-trade", -9);
        answers("most 9999*9999", 1000000);
        answers("least 0-9999*9999", -1000000);
        Check one = Check.of("IV one BEING", "folio 1 cells 2;being a on 0 at 0 trade 3;");
        one.ask("most 0-trade", -3);
        one.ask("least 0-trade", -3);
        one.ask("most trade", 3);
        one.ask("least trade", 3);
    }

    /** "total SUM (of all together)": each SUM is cut, what they are together is not. */
    private static void totals() {
        answers("total 9999*9999", 3000000);
        answers("total 9999*9999+1", 3000000);
        answers("total 0-9999*9999", -3000000);
        answers("total number-1", 0);
    }

    /** "1 if it MEETS the BEING of that number on this DAY, else 0". */
    private static void meetsWhom() {
        answers("total meets 0", 1);
        answers("total meets 1", 2);
        answers("total meets 2", 1);
        answers("total meets 3", 0);
        answers("total meets 8", 0);
        answers("total meets 9999", 0);
        answers("total meets (0-1)", 0);
        answers("total meets (0-9999*9999)", 0);
        answers("total meets (9999*9999)", 0);
        answers("total meets number", 0);
        answers("often meets (number-1)=1", 2);
        Check open = Check.of("IV MEETS by the OPENING", CHAIN.replace("opens 3", "opens 1"));
        open.ask("total meets 0+meets 1+meets 2", 0);
    }

    /** "meets PART": one PART alone. */
    private static void meetsItsPart() {
        answers("total meets 1+1", 5);
        answers("total meets 1*10", 20);
        answers("total meets(0+1)", 2);
        answers("total meets min(1,2)", 2);
        answers("total meets max(0,1)", 2);
        answers("total meets meets 1", 3);
        answers("total meets day", 1);
        fault(1, "total meets @-1");
        fault(1, "total meets @[1]");
        fault(1, "total meets @all");
        fault(1, "total meets @");
    }

    /** "PART: N; number; leaf; cell; trade; purse; open; met; day; meets PART; ..". */
    private static void partsOfQuestions() {
        String own = "folio cells gloss worm being on at trade opens corn toll steps thumb day leaf cell purse open other number met or and not all";
        String parts = " number leaf cell trade purse open met day ";
        for (String word : own.split(" ")) {
            if (parts.contains(" " + word + " ")) {
                answers("total 0*" + word, 0);
                answers("often 0=" + word + "*0", 3);
            } else {
                fault(1, "total @" + word);
                fault(1, "total 1+@" + word);
                fault(1, "often 0=@" + word);
            }
        }
    }

    /** "Its FAULTS: 1 as in I (an unknown word at its first byte". */
    private static void unknownWords() {
        for (String word : "a zed firsts firs count sum folio day all number min 1 12345 ? ; ( [".split(" ")) {
            fault(1, "@" + word + " all");
        }
        fault(1, "total @a");
        fault(1, "total @numbers");
        fault(1, "total @numberly");
        fault(1, "total @total");
        fault(1, "first @first");
        fault(1, "first number=0 @andy number=1");
        fault(1, "@First all");
        fault(1, "total @Number");
        fault(1, "total@1");
        fault(1, "total 1@number");
        fault(1, "first@1=1");
    }

    /** "what stands behind it, too". */
    private static void whatStandsBehind() {
        fault(1, "first all@;");
        fault(1, "first all @all");
        fault(1, "first all @1");
        fault(1, "first all @first all");
        fault(1, "often 1=1@=1");
        fault(1, "often 1=1 @1");
        fault(1, "total 1 @2");
        fault(1, "total 1@)");
        fault(1, "total (1)@(1)");
        fault(1, "total 1@=1");
        fault(1, "total 1 @and 1");
        fault(1, "most 1 @most 1");
        fault(1, "total 1 \n@" + (char) 0);
        answers("total 1 \n \n", 3);
        answers("\n total 1", 3);
    }

    /** "at the text's length, if it ends too soon". */
    private static void endsTooSoon() {
        fault(1, "@");
        fault(1, "  \n@");
        for (String text : new String[] {"first not [ 1 < 2 or all and meets", "total ( number + 2 ) * min ( 1 , max ( 2 ,"}) {
            StringBuilder cut = new StringBuilder();
            for (String word : text.split(" ")) {
                cut.append(word);
                if (!cut.toString().equals("total ( number + 2 )")) {
                    fault(1, cut + "@");
                    fault(1, cut + " @");
                }
                cut.append(' ');
            }
        }
        for (String kind : "first last often total most least".split(" ")) {
            fault(1, kind + "@");
            fault(1, kind + "\n@");
        }
    }

    /** "where a number is asked, a 5th digit at itself". */
    private static void digits() {
        answers("total 9999", 29997);
        answers("total 0001", 3);
        fault(1, "total 0000@1");
        fault(1, "total 1+9999@9999");
        fault(1, "total meets 0000@1");
        fault(1, "often 1=0000@1");
        fault(1, "total 1 @00001");
    }

    /** "4 the 7th of ( [ not meets that is open at once (not until its FACT, meets until its PART ends), at it". */
    private static void openAtOnce() {
        answers("total ((((((1))))))", 3);
        fault(4, "total ((((((@(1)))))))");
        answers("often [[[[[[all]]]]]]", 3);
        fault(4, "often [[[[[[@[all]]]]]]]");
        answers("often not not not not not not all", 3);
        fault(4, "often not not not not not not @not all");
        answers("total meets meets meets meets meets 1", 2);
        answers("total meets meets meets meets meets meets 1", 3);
        fault(4, "total meets meets meets meets meets meets @meets 1");
        answers("often [not[not(meets 1)=0]]", 1);
        fault(4, "often [not[not(meets @(1))=0]]");
        fault(4, "often [not[not(meets @meets 1)=0]]");
        fault(1, "often [not[not(meets @[");
        fault(4, "total meets meets meets meets meets meets min@(1,2)");
        answers("total meets meets meets meets meets min(1,1)", 2);
    }

    /** What has ended is open no more: in a chain of three each of them MEETS 1, or is it, so that meets meets 1 is 1 of all. */
    private static void openAgain() {
        answers("total meets meets meets meets meets meets 1+meets meets meets meets meets meets 1", 6);
        answers("total meets 1+((((((1))))))", 5);
        answers("total (((((meets 1)))))+(((((meets 1)))))", 4);
        answers("often not not not not not not all and not not not not not not all or [[[[[[all]]]]]]", 3);
        answers("often not meets 1=(((((1)))))", 1);
        fault(4, "often not meets 1=(((((@(1))))))");
        fault(4, "total meets 1+((((((@(1)))))))");
    }

    /** A FAULT of a QUESTION is told until the next folio() or ask(), and nothing is refused by it. */
    private static void faultsStay() {
        Check run = Check.of("IV the latest FAULT", CHAIN);
        run.askFault("total ?", 1, 6);
        run.due("days(1)", run.folk.days(1), 2);
        run.due("fault(0) stays", run.folk.fault(0), 1);
        run.due("fault(1) stays", run.folk.fault(1), 6);
        run.ask("total 1", 3);
        run.due("fault(1)", run.folk.fault(1), -1);
        run.askFault("total", 1, 5);
        run.folioGood(CHAIN, 6);
        for (int what = 0; what < 6; what++) {
            run.due("status(" + what + ")", run.folk.status(what), 0);
        }
    }

    /** Promise 28: "NOTHING with a FAULT, or, doing nothing else, without a folio". */
    private static void withoutFolio() {
        Check run = new Check("IV no folio");
        run.tape("total 1");
        run.refused("ask()", -1, run.folk::ask, MarginFolk.NOTHING);
        run.due("fault(0)", run.folk.fault(0), 0);
        run.due("fault(1)", run.folk.fault(1), -1);
        run.due("the tape goes: feed", run.folk.feed(0, 0, 0, 0, 0), 20);
        run.folioFault("folio 9", 2, 6);
        run.tape("total ?");
        run.due("ask()", run.folk.ask(), MarginFolk.NOTHING);
        run.due("fault(0)", run.folk.fault(0), 2);
        run.due("fault(1)", run.folk.fault(1), 6);
    }

    private static void written(Check run, int... body) {
        int[] whole = Check.sealed(body);
        int[] got = run.image();
        run.due("image(): " + Arrays.toString(got) + " for " + Arrays.toString(whole), Arrays.equals(got, whole), true);
    }

    private static Check onto(String text, int... body) {
        Check run = Check.of("IV IMAGE of " + text, text);
        run.tape(Check.sealed(body));
        run.due("on() of " + Arrays.toString(body), run.folk.on(), true);
        return run;
    }

    /** "AN IMAGE: DAY ..; for each LEAF its GLOSSES ..; for each BEING LEAF, CELL, purse (two bytes), how often it MET one (two bytes)". */
    private static void imageBytes() {
        Check run = Check.of("IV IMAGE", CHAIN);
        written(run, 0, 0, 0, 0, 0, 0, 0, 0, 5, 0, 0, 1, 2, 0, 5, 0, 0, 2, 0, 0, 5, 0, 0);
        run.due("days(1)", run.folk.days(1), 2);
        written(run, 0, 1, 0, 0, 0, 0, 0, 0, 4, 0, 1, 1, 2, 0, 5, 0, 2, 2, 0, 0, 6, 0, 1);
    }

    /** Two bytes, the higher first: around 256, and at the ends. */
    private static void imageNumbers() {
        int[] days = {0, 255, 256, 998};
        for (int day : days) {
            Check run = onto("folio 1 cells 2;corn 1;being a on 0 at 0 trade 0;", day / 256, day % 256, 0, 0, 0, 0, 255, 0, 0);
            written(run, day / 256, day % 256, 0, 0, 0, 0, 255, 0, 0);
            run.due("days(1)", run.folk.days(1), 0);
            written(run, (day + 1) / 256, (day + 1) % 256, 0, 0, 0, 1, 0, 0, 0);
        }
        Check full = onto("folio 2 cells 2;opens 2;corn 1;toll 0;being a on 0 at 0 trade 0;being b on 1 at 1 trade 0;",
                0, 0, 0, 0, 0, 0, 0x27, 0x0e, 0x27, 0x0e, 1, 1, 0x27, 0x0f, 0, 255);
        full.due("days(1)", full.folk.days(1), 1);
        written(full, 0, 1, 0, 0, 0, 0, 0x27, 0x0f, 0x27, 0x0f, 1, 1, 0x27, 0x0f, 1, 0);
    }

    /** "its GLOSSES, as bits of CELLS": of CELL 0 the bit 1, of CELL 7 the bit 128. */
    private static void imageGlosses() {
        Check run = Check.of("IV IMAGE of GLOSSES", "folio 6 cells 8;gloss 0 0;gloss 5 7;");
        written(run, 0, 0, 1, 0, 0, 0, 0, 128);
        for (int cell = 0; cell < 8; cell++) {
            run.due("gloss(2, " + cell + ")", run.folk.gloss(2, cell), 100);
        }
        written(run, 0, 0, 1, 0, 255, 0, 0, 128);
        Check two = Check.of("IV IMAGE of GLOSSES", "folio 1 cells 2;gloss 0 1;gloss 0 0;");
        written(two, 0, 0, 3);
    }

    /** "last a byte: all ahead from 83 on, c = (3 c + it) mod 251". */
    private static void imageLast() {
        Check run = Check.of("IV the last byte", "folio 1 cells 2;");
        // 83, 249, 747 mod 251 = 245, 735 mod 251 = 233
        run.due("image()", run.folk.image(), 4);
        run.due("octet(3)", run.folk.octet(3), 233);
        run.due("days(17)", run.folk.days(17), 0);
        // 249, (747 + 17) mod 251 = 11, 33
        run.due("image()", run.folk.image(), 4);
        run.due("octet(3)", run.folk.octet(3), 33);
        run.due("days(6)", run.folk.days(6), 0);
        // (747 + 23) mod 251 = 17, 51
        run.due("image()", run.folk.image(), 4);
        run.due("octet(3)", run.folk.octet(3), 51);
        Check zero = onto("folio 1 cells 2;", 0, 6, 0);
        // (747 + 6) mod 251 = 0
        zero.due("image()", zero.folk.image(), 4);
        zero.due("octet(3)", zero.folk.octet(3), 0);
        Check top = onto("folio 1 cells 2;", 0, 173, 1);
        // (747 + 173) mod 251 = 167, (501 + 1) mod 251 = 0
        top.due("image()", top.folk.image(), 4);
        top.due("octet(3)", top.folk.octet(3), 0);
        Check last = onto("folio 1 cells 2;", 0, 173, 0);
        // 501 mod 251 = 250
        last.due("image()", last.folk.image(), 4);
        last.due("octet(3)", last.folk.octet(3), 250);
    }

    private static void imageOfNothing() {
        Check run = new Check("IV IMAGE without a folio");
        written(run, 0, 0);
    }

    /** Promise 30: "Byte k of the latest image(); NONE when there is none such". */
    private static void octets() {
        Check run = Check.of("IV octets", CHAIN);
        run.due("octet(0) ahead of any image()", run.folk.octet(0), -1);
        run.due("image()", run.folk.image(), 24);
        run.due("octet(-1)", run.folk.octet(-1), -1);
        run.due("octet(0)", run.folk.octet(0), 0);
        run.due("octet(22)", run.folk.octet(22), 0);
        run.due("octet(23)", run.folk.octet(23) >= 0, true);
        run.due("octet(24)", run.folk.octet(24), -1);
        run.due("octet(57)", run.folk.octet(57), -1);
        run.due("octet(MAX)", run.folk.octet(Integer.MAX_VALUE), -1);
        run.due("octet(MIN)", run.folk.octet(Integer.MIN_VALUE), -1);
        run.due("days(9)", run.folk.days(9), 18);
        run.due("octet(1) of the latest image()", run.folk.octet(1), 0);
        run.folioGood("folio 1 cells 2;", 1);
        run.due("octet(17) of the latest image()", run.folk.octet(17), 2);
        run.due("image()", run.folk.image(), 4);
        run.due("octet(4)", run.folk.octet(4), -1);
    }

    private static final String TWO = "folio 2 cells 3;gloss 0 2;being a on 0 at 0 trade 0;being b on 1 at 1 trade 0;";
    private static final int[] GOOD = {0, 7, 4, 0, 0, 0, 0, 5, 0, 1, 1, 1, 0, 6, 0, 1};

    private static int[] with(int... changes) {
        int[] bytes = GOOD.clone();
        for (int k = 0; k + 1 < changes.length; k += 2) {
            bytes[changes[k]] = changes[k + 1];
        }
        return bytes;
    }

    private static void taken(int... changes) {
        int[] body = with(changes);
        Check run = onto(TWO, body);
        run.due("status(5)", run.folk.status(5), 0);
        written(run, body);
        run.due("the tape goes: feed", run.folk.feed(0, 0, 0, 0, 0), 20);
    }

    private static void none(int[] whole) {
        Check run = Check.standing("IV no IMAGE");
        run.folioGood(TWO, 4);
        run.due("days(3)", run.folk.days(3), 0);
        run.due("go(1, 1, 2)", run.folk.go(1, 1, 2), true);
        run.tape(whole);
        run.refused("on() of " + Arrays.toString(whole), 5, () -> run.folk.on() ? 1 : 0, 0);
        run.due("the tape goes: feed", run.folk.feed(0, 0, 0, 0, 0), 20);
        run.due("undo() all the same", run.folk.undo(), true);
        run.due("being(1, 1)", run.folk.being(1, 1), 1);
    }

    private static void refused(int... changes) {
        none(Check.sealed(with(changes)));
    }

    /** Promise 31: "DAY 999, purses, MET 9999 at most; CELLS that there are". */
    private static void onEdges() {
        taken();
        taken(0, 3, 1, 0xe7);
        taken(0, 0, 1, 0);
        taken(6, 0x27, 7, 0x0f);
        taken(8, 0x27, 9, 0x0f);
        taken(12, 0x27, 13, 0x0f);
        taken(14, 0x27, 15, 0x0f);
        taken(6, 0, 7, 0, 12, 0, 13, 0);
        taken(4, 1, 5, 2);
        taken(2, 0);
        taken(2, 6, 3, 5);
        taken(11, 2);
    }

    private static void onBeyond() {
        refused(0, 3, 1, 0xe8);
        refused(0, 255, 1, 255);
        refused(6, 0x27, 7, 0x10);
        refused(8, 0x27, 9, 0x10);
        refused(12, 0x27, 13, 0x10);
        refused(14, 0x27, 15, 0x10);
        refused(6, 255, 7, 255);
        refused(14, 128, 15, 0);
        refused(2, 8);
        refused(3, 8);
        refused(3, 128);
        refused(4, 2);
        refused(10, 2);
        refused(10, 255);
        refused(5, 3);
        refused(11, 3);
        refused(11, 255);
    }

    /** "no BEING on a GLOSS, no two on one CELL". */
    private static void onPlaces() {
        refused(5, 2);
        taken(5, 1);
        refused(2, 1);
        taken(2, 2);
        refused(3, 2);
        taken(3, 4);
        refused(10, 0, 11, 0);
        taken(10, 0, 11, 1);
        refused(4, 1, 5, 1);
        taken(4, 1, 5, 0);
        taken(4, 1, 5, 1, 10, 0, 11, 0);
    }

    /** "AN IMAGE of this FOLIO": with a byte less or more it is none. */
    private static void onLength() {
        int[] whole = Check.sealed(GOOD);
        none(Arrays.copyOf(whole, whole.length - 1));
        none(Arrays.copyOf(whole, whole.length + 1));
        none(GOOD);
        none(new int[0]);
        none(new int[] {0, 0, 245});
        none(Check.sealed(Arrays.copyOf(GOOD, GOOD.length - 1)));
        none(Check.sealed(Arrays.copyOf(GOOD, GOOD.length + 1)));
        none(Check.sealed(Arrays.copyOf(GOOD, GOOD.length - 6)));
        none(Check.sealed(Arrays.copyOf(GOOD, GOOD.length + 6)));
        none(new int[1600]);
    }

    private static void onLastByte() {
        int[] whole = Check.sealed(GOOD);
        for (int more : new int[] {1, 2, 128, 250, 255}) {
            int[] other = whole.clone();
            other[16] = (other[16] + more) % 256;
            none(other);
        }
        for (int k = 0; k < 16; k++) {
            int[] other = whole.clone();
            other[k] ^= 1;
            none(other);
        }
    }

    /** "true, all is as it tells, nothing is KEPT or can be undone". */
    private static void onForgets() {
        Check run = Check.of("IV on()", CHAIN);
        int[] first = run.image();
        run.due("days(3)", run.folk.days(3), 6);
        run.due("has(8)", run.folk.has(8), 6);
        run.due("has(10)", run.folk.has(10), 1);
        run.tape(first);
        run.due("on()", run.folk.on(), true);
        run.due("has(5)", run.folk.has(5), 0);
        run.due("has(8)", run.folk.has(8), 0);
        run.due("kept(0, 0)", run.folk.kept(0, 0), -1);
        run.due("has(10)", run.folk.has(10), 0);
        run.due("undo()", run.folk.undo(), false);
        run.due("status(4)", run.folk.status(4), 1);
        run.due("days(1)", run.folk.days(1), 2);
        run.due("has(8)", run.folk.has(8), 2);
        run.due("undo()", run.folk.undo(), true);
        run.due("has(8)", run.folk.has(8), 0);
        run.due("has(5)", run.folk.has(5), 0);
    }

    private static void onWithoutFolio() {
        Check run = new Check("IV on() without a folio");
        run.tape(0, 0, 245);
        run.refused("on()", 5, () -> run.folk.on() ? 1 : 0, 0);
        run.due("the tape goes: feed", run.folk.feed(0, 0, 0, 0, 0), 20);
    }

    /** GLOSSES of LEAVES that another FOLIO had come back with no IMAGE of this one. */
    private static void onOfFewerLeaves() {
        Check run = Check.of("IV on() of fewer LEAVES", "folio 6 cells 8;");
        run.tape(Check.sealed(0, 9, 255, 255, 255, 255, 255, 255));
        run.due("on()", run.folk.on(), true);
        run.due("has(2)", run.folk.has(2), 48);
        run.folioGood("folio 1 cells 2;", 1);
        run.due("has(2)", run.folk.has(2), 0);
        run.tape(Check.sealed(0, 8, 1));
        run.due("on()", run.folk.on(), true);
        run.due("has(2)", run.folk.has(2), 1);
        run.due("has(5)", run.folk.has(5), 8);
    }

    /** A QUESTION of 1600 bytes is read whole, however many were asked ahead of it. */
    private static void longestAgain() {
        Check run = Check.of("IV the longest QUESTION", CHAIN);
        String text = "total 0" + "+1".repeat(796) + " ";
        for (int k = 0; k < 5; k++) {
            run.due("length", text.length(), 1600);
            run.ask(text, 3 * 796);
        }
    }
}
