/** Promise 28: questions. */
public final class AskTest {
    private static final String CHAIN = "folio 4 cells 3;being a on 0 at 0 trade 4;being b on 1 at 2 trade 0;"
            + "being c on 2 at 0 trade 9;being d on 3 at 2 trade 1;opens 3;";

    public static void main(String[] args) {
        kinds();
        parts();
        tests();
        faults();
        depths();
        without();
        Check.finish();
    }

    private static void kinds() {
        Check run = Check.of("28 kinds", CHAIN);
        run.ask("first trade<4", 1);
        run.ask("last trade<4", 3);
        run.ask("first trade>9", -1);
        run.ask("last trade>9", -1);
        run.ask("often trade<4", 2);
        run.ask("often trade>9", 0);
        run.ask("often all", 4);
        run.ask("total trade", 14);
        run.ask("most trade", 9);
        run.ask("least trade", 0);
        run.ask("least 3-trade", -6);
        run.ask("most 0-trade-1", -1);
        run.ask("total 9999*9999", 4000000);
        run.ask("total 0-9999*9999", -4000000);
        run.ask("\n total\n\n1\n", 4);
        Check none = Check.of("28 no BEINGS", "folio 2 cells 2;");
        none.ask("first all", -1);
        none.ask("last all", -1);
        none.ask("often all", 0);
        none.ask("total 5", 0);
        none.ask("most 5", 0);
        none.ask("least 5", 0);
    }

    private static void parts() {
        Check run = Check.of("28 PARTS", CHAIN);
        run.ask("total number", 6);
        run.ask("total leaf*10+cell", 64);
        run.ask("total open", 2);
        run.ask("first open=1", 2);
        run.ask("total purse", 20);
        run.ask("total day", 0);
        run.ask("total met", 0);
        run.ask("total meets 0", 1);
        run.ask("first meets 0=1", 1);
        run.ask("total meets 1", 2);
        run.ask("total meets number", 0);
        run.ask("total meets 4", 0);
        run.ask("total meets (0-1)", 0);
        run.ask("total meets(number+1)", 2);
        run.ask("total meets min(1,2)*10", 20);
        run.ask("total meets 1+1", 6);
        run.ask("total meets meets 1", 3);
        run.ask("total meets meets 0", 0);
        run.ask("most max(trade,purse)", 9);
        run.due("days(2)", run.folk.days(2), 4);
        run.ask("total day", 8);
        run.ask("total met", 8);
        run.ask("last met=2", 2);
        run.ask("first met=4", 1);
        run.ask("last met=0", 3);
        run.ask("total purse", 28);
    }

    private static void tests() {
        Check run = Check.of("28 TESTS", CHAIN);
        run.ask("often number=0 or number=1 and all", 2);
        run.ask("often all or all and number=7", 4);
        run.ask("often[all or all]and number=3", 1);
        run.ask("often not number=1 and not number=2", 2);
        run.ask("often not[number=1 or number=2]", 2);
        run.ask("often not not all", 4);
        run.ask("often 1<number", 2);
        run.ask("often 1>number", 1);
        run.ask("often number*2=number+number", 4);
        run.ask("often number-1/2*3=0-0", 1);
    }

    private static void faults() {
        Check run = Check.of("28 FAULT 1", CHAIN);
        run.askFault("", 1, 0);
        run.askFault("  ", 1, 2);
        run.askFault("count all", 1, 0);
        run.askFault("day", 1, 0);
        run.askFault("thumb 1", 1, 0);
        run.askFault("firsts all", 1, 0);
        run.askFault("first", 1, 5);
        run.askFault("first all;", 1, 9);
        run.askFault("first all 1", 1, 10);
        run.askFault("first number", 1, 12);
        run.askFault("first numbe", 1, 6);
        run.askFault("first numberly", 1, 6);
        run.askFault("total all", 1, 6);
        run.askFault("total other", 1, 6);
        run.askFault("total 12345", 1, 10);
        run.askFault("total 1 2", 1, 8);
        run.askFault("total 1=1", 1, 7);
        run.askFault("total1", 1, 5);
        run.askFault("total 1 total 1", 1, 8);
        run.askFault("total meets", 1, 11);
        run.askFault("total meets [", 1, 12);
        run.askFault("total meets1", 1, 11);
        run.askFault("total min(1", 1, 11);
        run.askFault("total (1]", 1, 8);
        run.askFault("total a", 1, 6);
        run.askFault("total 1?", 1, 7);
        run.due("status(1): asking is never refused", run.folk.status(1), 0);
        run.due("the tape went", run.folk.end(1), false);
    }

    private static void depths() {
        Check run = Check.of("28 FAULT 4", CHAIN);
        run.ask("total meets meets meets meets meets meets 1 + meets meets meets meets meets meets 1", 2 * 3);
        run.askFault("total meets meets meets meets meets meets meets 1", 4, 42);
        run.ask("often [not[not(meets 1)=0]]", 2);
        run.askFault("often [not[not((meets 1))=0]]", 4, 16);
        run.ask("often [not[not meets 1+meets 1+(meets 1)=0]]", 2);
        run.ask("total ((((((1))))))", 4);
        run.askFault("total (((((((1)))))))", 4, 12);
        run.askFault("total meets meets meets meets meets min(min(", 4, 43);
    }

    private static void without() {
        Check run = new Check("28 no folio");
        run.folioFault("folio 9", 2, 6);
        run.tape("often ?");
        run.due("ask()", run.folk.ask(), MarginFolk.NOTHING);
        run.due("fault(0) stays", run.folk.fault(0), 2);
        run.due("fault(1) stays", run.folk.fault(1), 6);
        run.due("the tape went", run.folk.end(1), false);
    }
}
