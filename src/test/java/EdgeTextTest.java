/** Section I of the document's terms: each limit of a FOLIO's text, at it and one beyond it. */
public final class EdgeTextTest {
    private static final String HEAD = "folio 3 cells 4;";
    private static final String OWN = "folio cells gloss worm being on at trade opens corn toll steps thumb day leaf cell purse "
            + "open other number met meets or and not all min max";

    public static void main(String[] args) {
        statements();
        size();
        firstStatement();
        glosses();
        worms();
        beingsPlaces();
        beingsCount();
        oneEach();
        thumbs();
        digits();
        partsByRule();
        sumsCut();
        quotients();
        fromTheLeft();
        namesLength();
        namesOwnWords();
        namesUnlike();
        blanks();
        sideBySide();
        endsTooSoon();
        wholeWords();
        firstAlongTheText();
        openAtOnce();
        openAgain();
        tooManyFirst();
        noStatement();
        numbersLikeSigns();
        longestAgain();
        fullThenEmpty();
        Check.finish();
    }

    private static void fault(int code, String marked) {
        Check.standing("I FAULT " + code).refusedFolio(code, marked);
    }

    private static Check good(String text) {
        Check run = new Check("I no FAULT");
        run.folioGood(text, (int) text.chars().filter(c -> c == ';').count());
        run.due("status(1)", run.folk.status(1), 0);
        return run;
    }

    /** "A FOLIO is a text: { STATEMENT ; } (80 at most)"; "an 81st STATEMENT (whatever stands there), at its first byte". */
    private static void statements() {
        String most = HEAD + "thumb 1;".repeat(79);
        good(most);
        good(most + " \n ");
        good(HEAD + "thumb 1;".repeat(78));
        for (String next : new String[] {"thumb 1;", ";", "?", "folio 3 cells 4;", "x", "12345", "opens", "" + (char) 0, "" + (char) 255}) {
            fault(5, most + "@" + next);
            fault(5, most + "\n  @" + next);
        }
        fault(1, HEAD + "thumb 1;".repeat(78) + "thumb 1@");
        String full = HEAD + "thumb 1;".repeat(78) + "corn 1";
        good(full + "+1".repeat((1599 - full.length()) / 2) + ";");
    }

    /** "folio N cells N (1 .. 6 LEAVES; 2 .. 8 CELLS of each". */
    private static void size() {
        for (int leaves = 1; leaves <= 6; leaves++) {
            Check run = good("folio " + leaves + " cells 2;");
            run.due("has(0)", run.folk.has(0), leaves);
        }
        for (int cells = 2; cells <= 8; cells++) {
            Check run = good("folio 1 cells " + cells + ";");
            run.due("has(1)", run.folk.has(1), cells);
        }
        fault(2, "folio @0 cells 4;");
        fault(2, "folio @7 cells 4;");
        fault(2, "folio @9999 cells 4;");
        fault(2, "folio 3 cells @0;");
        fault(2, "folio 3 cells @1;");
        fault(2, "folio 3 cells @9;");
        fault(2, "folio 3 cells @9999;");
    }

    /** "the first STATEMENT, and it alone". */
    private static void firstStatement() {
        for (String text : new String[] {"gloss 0 0;", "worm 0 1 0;", "being a on 0 at 0 trade 0;", "opens 1;", "corn 1;", "toll 1;",
            "steps all;", "thumb 1;", "cells 4;"}) {
            fault(1, "@" + text);
            fault(1, "@" + text + HEAD);
        }
        fault(1, HEAD + "@folio 3 cells 4;");
        fault(1, HEAD + "thumb 1;@folio");
    }

    /** "gloss N N (a LEAF, a CELL of it, from 0 on; not told already; on which no being stands; 20 GLOSSES)". */
    private static void glosses() {
        Check run = good(HEAD + "gloss 0 0;gloss 2 3;gloss 0 3;gloss 2 0;");
        run.due("cell(0, 0, 0)", run.folk.cell(0, 0, 0), 1);
        run.due("cell(2, 3, 0)", run.folk.cell(2, 3, 0), 1);
        run.due("cell(2, 2, 0)", run.folk.cell(2, 2, 0), 0);
        run.due("has(2)", run.folk.has(2), 4);
        fault(2, HEAD + "gloss @3 0;");
        fault(2, HEAD + "gloss 0 @4;");
        fault(2, HEAD + "gloss 2 3;gloss 2 @3;");
        fault(2, HEAD + "being a on 2 at 3 trade 0;gloss 2 @3;");
        good(HEAD + "being a on 2 at 3 trade 0;gloss 2 2;gloss 1 3;");
        StringBuilder most = new StringBuilder("folio 6 cells 8;");
        for (int k = 0; k < 20; k++) {
            most.append("gloss ").append(k / 8).append(' ').append(k % 8).append(';');
        }
        Check full = good(most.toString());
        full.due("has(2)", full.folk.has(2), 20);
        fault(5, most + "@gloss 5 7;");
        fault(5, most + "@gloss 0 0;");
        fault(5, most + "@gloss");
        good(most + "worm 0 1 0;being a on 5 at 0 trade 0;");
    }

    /** "worm N N N (a LEAF, another one, a CELL: ..; 12 WORMS)"; "of a WORM the second LEAF, if it is the first one". */
    private static void worms() {
        Check run = good(HEAD + "worm 0 2 0;worm 2 0 3;");
        run.due("has(3)", run.folk.has(3), 2);
        fault(2, HEAD + "worm @3 0 0;");
        fault(2, HEAD + "worm 0 @3 0;");
        fault(2, HEAD + "worm 0 1 @4;");
        fault(2, HEAD + "worm 0 @0 0;");
        fault(2, HEAD + "worm 2 @2 4;");
        fault(2, "folio 1 cells 2;worm 0 @0 0;");
        fault(2, "folio 1 cells 2;worm 0 @1 0;");
        String most = HEAD + "worm 0 1 0;".repeat(12);
        Check full = good(most);
        full.due("has(3)", full.folk.has(3), 12);
        fault(5, most + "@worm 0 1 0;");
        fault(5, most + "@worm 0 0 0;");
        good(HEAD + "gloss 0 0;being a on 1 at 0 trade 0;worm 0 1 0;");
    }

    /** "being NAME on N at N trade N (a LEAF, a CELL without a GLOSS, on which none stands; 0 .. 9". */
    private static void beingsPlaces() {
        Check run = good(HEAD + "being a on 0 at 0 trade 0;being b on 2 at 3 trade 9;");
        run.due("being(0, 2)", run.folk.being(0, 2), 0);
        run.due("being(1, 0)", run.folk.being(1, 0), 2);
        run.due("being(1, 1)", run.folk.being(1, 1), 3);
        run.due("being(1, 2)", run.folk.being(1, 2), 9);
        fault(2, HEAD + "being a on @3 at 0 trade 0;");
        fault(2, HEAD + "being a on 0 at @4 trade 0;");
        fault(2, HEAD + "being a on 0 at 0 trade @10;");
        fault(2, HEAD + "gloss 0 0;being a on 0 at @0 trade 10;");
        fault(2, HEAD + "being a on 0 at 0 trade 0;being b on 0 at @0 trade 0;");
        good(HEAD + "gloss 0 0;being a on 0 at 1 trade 0;being b on 1 at 0 trade 0;");
    }

    /** "8 BEINGS". */
    private static void beingsCount() {
        StringBuilder most = new StringBuilder("folio 2 cells 8;");
        for (int k = 0; k < 8; k++) {
            most.append("being ").append((char) ('s' + k)).append(" on 0 at ").append(k).append(" trade 1;");
        }
        Check run = good(most.toString());
        run.due("has(4)", run.folk.has(4), 8);
        run.due("letter(7, 0)", run.folk.letter(7, 0), 26);
        run.due("letter(8, 0)", run.folk.letter(8, 0), -1);
        fault(5, most + "@being a on 1 at 0 trade 1;");
        fault(5, most + "@being s on 0 at 0 trade 10;");
        good(most + "gloss 1 0;worm 0 1 0;");
    }

    /** "opens SUM, corn SUM, toll SUM, steps TEST (one each)"; "a second opens, corn, toll, steps, too". */
    private static void oneEach() {
        good(HEAD + "steps all;toll 1;corn 1;opens 1;");
        fault(5, HEAD + "opens 1;@opens 1;");
        fault(5, HEAD + "corn 1;@corn 1;");
        fault(5, HEAD + "toll 1;@toll 1;");
        fault(5, HEAD + "steps all;@steps all;");
        fault(5, HEAD + "opens 1;corn 1;toll 1;steps all;thumb 1;@opens ?");
    }

    /** "thumb N (0 .. 100; the last one counts, 0 without)". */
    private static void thumbs() {
        String text = HEAD + "being a on 0 at 0 trade 0;";
        String[] told = {"", "thumb 0;", "thumb 100;", "thumb 100;thumb 0;", "thumb 0;thumb 100;", "thumb 100;thumb 100;thumb 0;"};
        int[] thumbs = {0, 0, 60, 0, 60, 0};
        for (int k = 0; k < told.length; k++) {
            Check run = good(text + told[k]);
            run.due("chance(60) by " + told[k], run.folk.chance(60), thumbs[k]);
        }
        fault(2, HEAD + "thumb @101;");
        fault(2, HEAD + "thumb 100;thumb @9999;");
    }

    /** "N (1 to 4 digits)"; "where a number is asked, a 5th digit at itself". */
    private static void digits() {
        good("folio 0003 cells 0004;gloss 0000 0003;worm 0000 0001 0002;being a on 0002 at 0003 trade 0009;thumb 0100;opens 9999;");
        fault(1, "folio 0000@3 cells 4;");
        fault(1, "folio 3 cells 0000@4;");
        fault(1, HEAD + "gloss 0000@0 0;");
        fault(1, HEAD + "gloss 0 0000@0;");
        fault(1, HEAD + "worm 0000@0 1 0;");
        fault(1, HEAD + "worm 0 0000@1 0;");
        fault(1, HEAD + "worm 0 1 0000@0;");
        fault(1, HEAD + "being a on 0000@0 at 0 trade 0;");
        fault(1, HEAD + "being a on 0 at 0000@0 trade 0;");
        fault(1, HEAD + "being a on 0 at 0 trade 0000@0;");
        fault(1, HEAD + "thumb 0000@0;");
        fault(1, HEAD + "opens 1000@0;");
        fault(1, HEAD + "opens 1+1000@0;");
        fault(1, HEAD + "corn 1000@00000;");
        fault(1, HEAD + "toll (1000@0);");
        fault(1, HEAD + "toll min(1000@0,1);");
        fault(1, HEAD + "steps 1000@0<1;");
        fault(1, HEAD + "steps 1<1000@0;");
        fault(1, "folio 3 @00004 cells;");
        fault(1, HEAD + "being @12345 on 0 at 0 trade 0;");
        fault(1, HEAD + "opens 1 @12345;");
    }

    /** "PART: N; day; .. in corn, toll, steps: leaf; cell; trade; purse; open; in toll: other". */
    private static void partsByRule() {
        String ofBeings = " day leaf cell trade purse open ";
        for (String word : (OWN + " first a zed").split(" ")) {
            boolean two = word.equals("min") || word.equals("max");
            boolean of = ofBeings.contains(" " + word + " ");
            if (!two) {
                partIn("opens ", word, ";", word.equals("day"));
                partIn("corn 1+", word, ";", of);
                partIn("toll 1*", word, ";", of || word.equals("other"));
                boolean fact = word.equals("not") || word.equals("all");
                partIn("steps 1<", word, ";", of);
                if (!fact) {
                    partIn("steps ", word, "=1;", of);
                }
            }
        }
    }

    private static void partIn(String ahead, String word, String behind, boolean allowed) {
        if (allowed) {
            good(HEAD + ahead + word + behind);
        } else {
            fault(1, HEAD + ahead + "@" + word + behind);
        }
    }

    /** A SUM's value as an OPENING of 6 LEAVES (modulo 7), as a QUESTION's answer, and as a toll. */
    private static void value(String sum, int value) {
        Check run = good("folio 6 cells 2;being a on 0 at 0 trade 0;opens " + sum + ";");
        run.due("opening(0) of " + sum, run.folk.opening(0), Math.floorMod(value, 7));
        run.ask("total " + sum, value);
        run.ask("most " + sum, value);
        Check toll = good("folio 2 cells 2;opens 2;corn 0;being a on 0 at 0 trade 0;being b on 1 at 1 trade 0;toll " + sum + ";");
        toll.due("later(0, 1, 1) of " + sum, toll.folk.later(0, 1, 1), 5 - Math.max(-5, Math.min(5, value)));
    }

    /** "each sum, difference, product above 10 to the 6 is that, below -10 to the 6 likewise". */
    private static void sumsCut() {
        value("9999*100+99", 999999);
        value("9999*100+100", 1000000);
        value("9999*100+101", 1000000);
        value("9999*100-(0-100)", 1000000);
        value("9999*100-(0-101)", 1000000);
        value("0-9999*100-99", -999999);
        value("0-9999*100-100", -1000000);
        value("0-9999*100-101", -1000000);
        value("(0-9999*100)+(0-100)", -1000000);
        value("(0-9999*100)+(0-101)", -1000000);
        value("1000*1000", 1000000);
        value("1001*1000", 1000000);
        value("999*1001", 999999);
        value("(0-1000)*1000", -1000000);
        value("(0-1001)*1000", -1000000);
        value("(0-1001)*(0-1000)", 1000000);
        value("9999*9999*9999*9999", 1000000);
        value("(0-9999)*9999*9999*9999", -1000000);
        value("9999*9999-1", 999999);
        value("9999*9999+9999-9999", 990001);
        value("9999*9999-9999*9999", 0);
        value("0-9999*9999-9999+9999", -990001);
        value("9999*9999/9999", 100);
        value("min(1001*1000,1000*1000+1)-1", 999999);
    }

    /** "/ gives the greatest whole number not above, by 0 it gives 0". */
    private static void quotients() {
        value("6/3", 2);
        value("7/3", 2);
        value("(0-6)/3", -2);
        value("(0-7)/3", -3);
        value("7/(0-3)", -3);
        value("(0-7)/(0-3)", 2);
        value("(0-1)/9999", -1);
        value("1/9999", 0);
        value("0/9", 0);
        value("9/0", 0);
        value("0/0", 0);
        value("(0-9)/0", 0);
        value("9/(4-4)", 0);
        value("4+9/0", 4);
        value("9999*9999/0+3", 3);
        value("(0-9999*9999)/1", -1000000);
        value("(0-9999*9999)/(0-1)", 1000000);
        value("5/day", 0);
    }

    /** "All from the left on". */
    private static void fromTheLeft() {
        value("9-4-3", 2);
        value("9-4+3", 8);
        value("16/4/2", 2);
        value("16/4*2", 8);
        value("3*5/2", 7);
        value("2+3*4", 14);
        value("2*3+4*5-6/4", 25);
        value("min(2,3)+max(2,3)*10", 32);
        value("min(3,3)*max(0-1,0-2)", -3);
    }

    /** "NAMES: 1 to 6 letters"; "a 7th letter at itself". */
    private static void namesLength() {
        Check one = good(HEAD + "being z on 0 at 0 trade 0;");
        one.due("letter(0, 0)", one.folk.letter(0, 0), 26);
        one.due("letter(0, 1)", one.folk.letter(0, 1), 0);
        Check six = good(HEAD + "being azazaz on 0 at 0 trade 0;");
        six.due("letter(0, 0)", six.folk.letter(0, 0), 1);
        six.due("letter(0, 5)", six.folk.letter(0, 5), 26);
        fault(1, HEAD + "being azazaz@a on 0 at 0 trade 0;");
        fault(1, HEAD + "being number@s on 0 at 0 trade 0;");
        fault(1, HEAD + "being azazaz@azazazazaz on 0 at 0 trade 0;");
        fault(1, HEAD + "being @;");
        fault(1, HEAD + "being @on 0 at 0 trade 0;");
    }

    /** "no OWN WORD"; "where a NAME is asked, an OWN WORD so" (at its first byte). */
    private static void namesOwnWords() {
        for (String word : OWN.split(" ")) {
            fault(1, HEAD + "being @" + word + " on 0 at 0 trade 0;");
            if (word.length() < 6) {
                good(HEAD + "being " + word + "x on 0 at 0 trade 0;");
            }
            if (word.length() > 2) {
                good(HEAD + "being " + word.substring(0, 1) + word.substring(2) + " on 0 at 0 trade 0;");
            }
        }
        for (String word : "first last often total most least".split(" ")) {
            good(HEAD + "being " + word + " on 0 at 0 trade 0;");
        }
    }

    /** "unlike ones"; "3 a NAME that is there already, at it". */
    private static void namesUnlike() {
        String two = HEAD + "being abcdef on 0 at 0 trade 0;being a on 0 at 1 trade 0;";
        fault(3, two + "being @abcdef on 0 at 2 trade 0;");
        fault(3, two + "being @a on 0 at 2 trade 0;");
        fault(3, two + "being @a ?");
        fault(3, two + "being @a");
        fault(1, two + "being abcdef@a");
        good(two + "being abcdeg on 0 at 2 trade 0;being ab on 0 at 3 trade 0;being aa on 1 at 0 trade 0;being abcde on 1 at 1 trade 0;");
    }

    /** "Blanks (10, 32) are where one likes". */
    private static void blanks() {
        good("\n \nfolio\n3 \n cells\n4\n;\n  opens\n(\n1\n+\n2 )\n*\nmin\n( 1\n,\n2 ) ;\n");
        good("folio 3 cells 4;opens(1+2)*min(1,2)/max(3,day)-day;steps not[1<2]and(1)=1 or all;");
        for (int sign = 0; sign < 256; sign++) {
            if (sign != 10 && sign != 32 && sign != '@' && sign != ';' && !(sign >= '0' && sign <= '9')) {
                fault(1, "folio 3 cells 4@" + (char) sign + ";");
            }
        }
    }

    /** "words and numbers side by side need one". */
    private static void sideBySide() {
        fault(1, "folio@3 cells 4;");
        fault(1, "folio 3@cells 4;");
        fault(1, "folio 3 cells@4;");
        fault(1, HEAD + "being a on 0 at 0 trade 0@thumb 1;");
        fault(1, HEAD + "being a@1 on 0 at 0 trade 0;");
        fault(1, HEAD + "being a on@0 at 0 trade 0;");
        fault(1, HEAD + "opens day@1;");
        fault(1, HEAD + "opens 1@day;");
        fault(1, HEAD + "steps 1<2@and all;");
        fault(1, HEAD + "steps not@1<2;");
        good(HEAD + "steps 1<2 and not 1=2 or all;opens(day)+1;");
    }

    /** "at the text's length, if it ends too soon". */
    private static void endsTooSoon() {
        String[] texts = {"folio 3 cells 4 ;", "gloss 0 1 ;", "worm 0 1 2 ;", "being a on 0 at 0 trade 9 ;", "thumb 7 ;",
            "opens ( day + 2 ) * min ( 1 , max ( 2 , 3 ) ) ;", "steps not [ 1 < 2 or all and leaf = ( 2 ) ] and 1 > 2 ;"};
        for (String text : texts) {
            String[] words = text.split(" ");
            StringBuilder cut = new StringBuilder(text.startsWith("folio") ? "" : HEAD);
            for (String word : words) {
                if (!word.equals(";")) {
                    cut.append(word);
                    fault(1, cut + "@");
                    fault(1, cut + " \n@");
                    cut.append(' ');
                }
            }
            good(cut + ";");
        }
    }

    /** "1 the first byte with which no such text goes on (words and numbers whole, at their first byte". */
    private static void wholeWords() {
        fault(1, "@folios 3 cells 4;");
        fault(1, "@foli 3 cells 4;");
        fault(1, "@foliofolio 3 cells 4;");
        fault(1, "@Folio 3 cells 4;");
        fault(1, "folio 3 @cell 4;");
        fault(1, "folio 3 @cellses 4;");
        fault(1, "folio @three cells 4;");
        fault(1, "folio @-1 cells 4;");
        fault(1, HEAD + "@glosses 0 0;");
        fault(1, HEAD + "@123 0;");
        fault(1, HEAD + "opens @days;");
        fault(1, HEAD + "opens @minimum(1,2);");
        fault(1, HEAD + "steps all @ands all;");
        fault(1, HEAD + "being a @one 0 at 0 trade 0;");
        fault(1, HEAD + "gloss 0 0 @123;");
        fault(1, HEAD + "thumb 5@.0;");
    }

    /** "FAULTS, the first along the text". */
    private static void firstAlongTheText() {
        fault(2, "folio @7 cell 4;");
        fault(1, "folio 3 @cell 9;");
        fault(2, "folio @0 cells 1;?");
        fault(2, HEAD + "gloss @3 4;");
        fault(2, HEAD + "worm @3 3 4;");
        fault(2, HEAD + "worm 1 @1 ?");
        fault(3, HEAD + "being a on 0 at 0 trade 0;being @a on 3 at 4 trade 10;");
        fault(2, HEAD + "being a on @3 at 4 trade 10;being a");
        fault(4, HEAD + "opens ((((((@(?");
        fault(1, HEAD + "opens ((((((@?(");
        fault(5, HEAD + "opens 1;@opens (((((((1)))))));");
    }

    /** "4 the 7th of ( [ not that is open at once (not until its FACT ends), at it". */
    private static void openAtOnce() {
        good(HEAD + "opens ((((((1))))));");
        fault(4, HEAD + "opens ((((((@(1)))))));");
        good(HEAD + "corn min((((((1))))),2);");
        fault(4, HEAD + "corn min((((((@(1)))))),2);");
        good(HEAD + "corn max(1,(((((2))))));");
        fault(4, HEAD + "corn max(1,(((((@(2)))))));");
        fault(4, HEAD + "toll ((((((min@(1,2)))))));");
        fault(4, HEAD + "toll ((((((max @(1,2)))))));");
        fault(1, HEAD + "toll ((((((min @1");
        good(HEAD + "steps [[[[[[all]]]]]];");
        fault(4, HEAD + "steps [[[[[[@[all]]]]]]];");
        good(HEAD + "steps not not not not not not all;");
        fault(4, HEAD + "steps not not not not not not @not all;");
        good(HEAD + "steps not[not[not(1)<2]];");
        fault(4, HEAD + "steps not[not[not(@(1))<2]];");
        good(HEAD + "steps not[not[((1))<((2))]];");
        fault(4, HEAD + "steps not[not[((@(1)))<2]];");
        fault(4, HEAD + "steps not[not[1<((@(2)))]];");
        fault(4, HEAD + "steps [not[not[not@[all]]]];");
        fault(4, HEAD + "steps [not[not[not @not all]]];");
    }

    /** What has ended is open no more: each of these has six open at most at once. */
    private static void openAgain() {
        good(HEAD + "opens ((((((1))))))+((((((1))))))*min((((((1))))),(((((2))))));");
        good(HEAD + "steps not not not not not not all and not not not not not not all or [[[[[[all]]]]]];");
        good(HEAD + "steps not((((1))))=((((1))))and((((((1))))))=1;");
        good(HEAD + "steps not[[[[[all]]]]]and not((((( 1)))))<(((((2)))));");
        fault(4, HEAD + "steps all and not((((( 1)))))<(((((@(2))))));");
        fault(4, HEAD + "opens ((((((1))))))+((((((@(1)))))));");
    }

    /** "5 one too many of a kind .., at its first byte": whatever else is wrong in that STATEMENT. */
    private static void tooManyFirst() {
        String worms = HEAD + "worm 0 1 0;".repeat(12);
        fault(5, worms + " \n@worm 9 9 9;");
        fault(1, worms + "@worms 0 1 0;");
        fault(1, worms + "@wor");
        fault(5, worms + "@worm");
    }

    /** "one without a STATEMENT has FAULT 1 at its length". */
    private static void noStatement() {
        fault(1, "@");
        fault(1, " @");
        fault(1, "\n\n   \n@");
        fault(1, " ".repeat(1600) + "@");
        fault(1, " @;");
    }

    /** A number that leans on a word is no sign, though its value be that of one. */
    private static void numbersLikeSigns() {
        fault(1, HEAD + "opens day@59");
        fault(1, HEAD + "opens day@43 1;");
        fault(1, HEAD + "opens (day@41;");
        fault(1, HEAD + "steps day@60 1;");
        fault(1, HEAD + "steps not@91 all];");
    }

    /** A text of 1600 bytes is read whole, however many were read ahead of it. */
    private static void longestAgain() {
        String head = "folio 6 cells 2;opens 0";
        String text = head + "+1".repeat((1599 - head.length()) / 2) + " ".repeat((1599 - head.length()) % 2) + ";";
        Check run = new Check("I the longest text");
        for (int k = 0; k < 5; k++) {
            run.due("length", text.length(), 1600);
            run.folioGood(text, 2);
            run.due("has(6)", run.folk.has(6), (1599 - head.length()) / 2 % 7);
        }
    }

    /** Of a FOLIO that was full nothing is left behind the next ones. */
    private static void fullThenEmpty() {
        StringBuilder full = new StringBuilder("folio 6 cells 8;opens 6;corn 9;toll 9;steps all;thumb 100;");
        for (int k = 0; k < 8; k++) {
            full.append("being ").append((char) ('a' + k)).append(" on 0 at ").append(k).append(" trade 9;");
        }
        for (int k = 0; k < 20; k++) {
            full.append("gloss ").append(3 + k / 8).append(' ').append(k % 8).append(';');
        }
        full.append("worm 0 1 0;".repeat(12));
        Check run = new Check("I full, then empty");
        for (int k = 0; k < 2; k++) {
            run.folioGood(full.toString(), 46);
            int[] most = {6, 8, 20, 12, 8, 0, 6, 40, 0, 0, 0};
            for (int what = 0; what < most.length; what++) {
                run.due("has(" + what + ") of the full one", run.folk.has(what), most[what]);
            }
            run.due("way(7, 1, 0)", run.folk.way(7, 1, 0), 1);
            run.due("chance(1)", run.folk.chance(1), 1);
        }
        for (int k = 0; k < 2; k++) {
            run.folioGood("folio 2 cells 2;being a on 0 at 0 trade 0;", 2);
            int[] few = {2, 2, 0, 0, 1, 0, 0, 5, 0, 0, 0};
            for (int what = 0; what < few.length; what++) {
                run.due("has(" + what + ") of the small one", run.folk.has(what), few[what]);
            }
            run.due("way(0, 1, 0): no WORM", run.folk.way(0, 1, 0), -1);
            run.due("chance(9): no thumb", run.folk.chance(9), 0);
            run.due("being(0, 1): no steps", run.folk.being(0, 1), 0);
            run.due("being(0, 3): no corn", run.folk.being(0, 3), 5);
            run.due("being(0, 4)", run.folk.being(0, 4), 0);
        }
    }
}
