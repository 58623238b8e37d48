import java.util.Arrays;

/** Promises 29 to 32: images, refusals. */
public final class ImageTest {
    private static final String TEXT = "folio 2 cells 3;gloss 1 2;gloss 1 0;being a on 0 at 1 trade 0;being b on 1 at 1 trade 7;opens 2;corn 70;";

    public static void main(String[] args) {
        image();
        longest();
        on();
        notOn();
        status();
        Check.finish();
    }

    private static void image() {
        Check run = new Check("29 no folio");
        run.due("image()", Arrays.equals(run.image(), new int[] {0, 0, 245}), true);
        run = Check.of("29, 30 image", TEXT);
        run.due("octet(0): none yet", run.folk.octet(0), -1);
        int[] first = Check.sealed(0, 0, 0, 5, 0, 1, 0, 5, 0, 0, 1, 1, 0, 5, 0, 0);
        run.due("image()", run.folk.image(), first.length);
        for (int k = 0; k < first.length; k++) {
            run.due("octet(" + k + ")", run.folk.octet(k), first[k]);
        }
        run.due("octet(" + first.length + ")", run.folk.octet(first.length), -1);
        run.due("octet(-1)", run.folk.octet(-1), -1);
        for (int k = 0; k < 3; k++) {
            run.due("days(100)", run.folk.days(100), 100);
        }
        run.due("octet(0) of the latest image()", run.folk.octet(0), 0);
        run.due("octet(1) of the latest image()", run.folk.octet(1), 0);
        // 300 DAYS of 70 fill both purses
        int[] then = Check.sealed(1, 44, 0, 5, 0, 1, 0x27, 0x0f, 1, 44, 1, 1, 0x27, 0x0f, 1, 44);
        run.due("image()", Arrays.equals(run.image(), then), true);
        run.folioGood("folio 6 cells 8;being a on 5 at 7 trade 0;", 2);
        run.due("octet(0) of the latest image()", run.folk.octet(0), 1);
        run.due("image()", run.folk.image(), 2 + 6 + 6 + 1);
    }

    private static void longest() {
        StringBuilder text = new StringBuilder("folio 6 cells 8;gloss 5 6;");
        for (int k = 0; k < 7; k++) {
            text.append("being ").append((char) ('a' + k)).append(" on 5 at ").append(k < 6 ? k : 7).append(" trade 0;");
        }
        text.append("being h on 4 at 7 trade 0;");
        Check run = Check.of("29, 30 the longest image", text.toString());
        int[] image = run.image();
        run.due("image()", image.length, 57);
        run.due("octet(7): the GLOSS on LEAF 5", image[7], 64);
        run.due("octet(50): LEAF of the last one", image[50], 4);
        run.due("octet(51): its CELL", image[51], 7);
        run.due("octet(56): the last byte", image[56], Check.sealed(Arrays.copyOf(image, 56))[56]);
        run.due("octet(57)", run.folk.octet(57), -1);
        run.folk.days(3);
        run.tape(image);
        run.due("on()", run.folk.on(), true);
        run.due("like at first", Arrays.equals(run.image(), image), true);
    }

    private static void on() {
        Check run = Check.of("31 on", TEXT);
        run.due("days(5)", run.folk.days(5), 5);
        run.tape(1, 1);
        run.due("see()", run.folk.see(), 1);
        int[] image = run.image();
        Check other = Check.of("31 on", TEXT);
        other.folk.days(2);
        other.tape(1, 1);
        other.due("see()", other.folk.see(), 1);
        other.tape(image);
        other.due("on()", other.folk.on(), true);
        other.due("the tape went", other.folk.end(1), false);
        other.due("image()", Arrays.equals(other.image(), image), true);
        other.due("has(5)", other.folk.has(5), 5);
        other.due("has(8)", other.folk.has(8), 0);
        other.due("has(9) stays", other.folk.has(9), 1);
        other.due("has(10)", other.folk.has(10), 0);
        other.due("being(0, 4)", other.folk.being(0, 4), 5);
        other.due("undo()", other.folk.undo(), false);
        other.due("days(1)", other.folk.days(1), 1);
        run.folk.days(1);
        other.due("like the first one", Arrays.equals(other.image(), run.image()), true);
        other.tape(Check.sealed(3, 0xe7, 7, 0, 1, 2, 0x27, 0x0f, 0x27, 0x0f, 1, 0, 0, 0, 0, 0));
        other.due("on() at the edges, GLOSSES elsewhere", other.folk.on(), true);
        other.due("has(5)", other.folk.has(5), 999);
        other.due("has(2)", other.folk.has(2), 3);
        other.due("has(7)", other.folk.has(7), 9999);
        other.due("status(5)", other.folk.status(5), 0);
    }

    private static void notOn() {
        Check run = Check.of("31 no image", TEXT);
        run.folk.days(1);
        int[] before = run.image();
        int[] good = {0, 7, 0, 5, 0, 1, 0, 5, 0, 0, 1, 1, 0, 5, 0, 0};
        int[][] changes = {
            {0, 3, 1, 0xe8}, {0, 255, 1, 255}, {2, 8, 2, 8}, {3, 255, 3, 255}, {4, 2, 4, 2}, {5, 3, 5, 3},
            {6, 0x27, 7, 0x10}, {8, 0x27, 9, 0x10}, {10, 2, 10, 2}, {11, 3, 11, 3}, {11, 2, 11, 2}, {11, 0, 11, 0},
            {10, 0, 11, 1}, {2, 2, 2, 2}, {14, 255, 15, 255}, {12, 128, 13, 0}};
        int refused = 0;
        for (int[] change : changes) {
            int[] bytes = good.clone();
            bytes[change[0]] = change[1];
            bytes[change[2]] = change[3];
            run.tape(Check.sealed(bytes));
            run.due("on() of " + Arrays.toString(bytes), run.folk.on(), false);
            refused++;
        }
        int[] whole = Check.sealed(good);
        int[][] others = {Arrays.copyOf(whole, whole.length - 1), Arrays.copyOf(whole, whole.length + 1), {}, {0, 0, 245}};
        for (int[] bytes : others) {
            run.tape(bytes);
            run.due("on() of " + bytes.length + " bytes", run.folk.on(), false);
            run.due("the tape went", run.folk.end(1), false);
            refused++;
        }
        for (int k = 0; k < whole.length; k++) {
            int[] bytes = whole.clone();
            bytes[k] ^= 1;
            run.tape(bytes);
            run.due("on() with byte " + k + " wrong", run.folk.on(), false);
            refused++;
        }
        run.due("status(5)", run.folk.status(5), refused);
        run.due("all stays", Arrays.equals(run.image(), before), true);
        run.due("has(8)", run.folk.has(8), 1);
        run.due("has(10)", run.folk.has(10), 1);
        run.tape(whole);
        run.due("on()", run.folk.on(), true);
        Check without = new Check("31 no folio");
        without.tape(0, 0, 245);
        without.due("on()", without.folk.on(), false);
        without.due("status(5)", without.folk.status(5), 1);
    }

    private static void status() {
        Check run = Check.of("32 status", TEXT);
        run.folk.end(-1);
        run.folioFault("?", 1, 0);
        run.folk.see();
        run.folk.see();
        run.folk.go(9, 9, 9);
        run.folk.gloss(9, 9);
        run.folk.gloss(9, 9);
        run.folk.gloss(9, 9);
        run.folk.days(0);
        run.folk.chance(0);
        run.folk.undo();
        run.folk.seed(-1);
        run.folk.on();
        int[] want = {1, 3, 4, 2, 1, 2};
        for (int what = 0; what < want.length; what++) {
            run.due("status(" + what + ")", run.folk.status(what), want[what]);
        }
        run.due("status(6)", run.folk.status(6), -1);
        run.due("status(-1)", run.folk.status(-1), -1);
        run.folioGood("folio 2 cells 3;", 1);
        run.due("status(1) behind a folio", run.folk.status(1), 3);
    }
}
