import java.nio.charset.StandardCharsets;
import java.util.ArrayList;
import java.util.List;
import java.util.function.LongSupplier;

/** One run of calls on a new object: texts go onto its tape, answers are compared with what is due. */
final class Check {
    private static int wrong = 0;
    private static int seen = 0;

    final MarginFolk folk = new MarginFolk();
    private final String title;

    Check(String title) {
        this.title = title;
    }

    /** A run that begins with a FOLIO. */
    static Check of(String title, String text) {
        Check run = new Check(title);
        run.tape(text);
        run.due("folio() of " + text, run.folk.folio(), text.chars().filter(c -> c == ';').count());
        return run;
    }

    /** A run with something of all that could change: DAYS, a purse, KEPT, SEEN, a GLOSS, ACTS. */
    static Check standing(String title) {
        Check run = of(title, "folio 2 cells 3;gloss 1 0;being a on 0 at 0 trade 1;being b on 1 at 2 trade 2;opens 2;steps day=1;");
        run.due("days(2)", run.folk.days(2), 2);
        run.due("gloss(0, 0)", run.folk.gloss(0, 0), 100);
        run.tape(0, 2);
        run.due("see()", run.folk.see(), 1);
        return run;
    }

    void due(String call, long got, long want) {
        seen++;
        if (got != want) {
            wrong++;
            System.out.println(title + ": " + call + " answered " + got + ", due is " + want);
        }
    }

    void due(String call, boolean got, boolean want) {
        due(call, got ? 1 : 0, want ? 1 : 0);
    }

    void tape(String text) {
        tape(text.getBytes(StandardCharsets.ISO_8859_1));
    }

    void tape(int... bytes) {
        byte[] all = new byte[bytes.length];
        for (int k = 0; k < all.length; k++) {
            all[k] = (byte) bytes[k];
        }
        tape(all);
    }

    void tape(byte[] bytes) {
        folk.end(0);
        for (int k = 0; k < bytes.length; k += 20) {
            folk.feed(word(bytes, k), word(bytes, k + 4), word(bytes, k + 8), word(bytes, k + 12), word(bytes, k + 16));
        }
        folk.end(bytes.length);
    }

    private static int word(byte[] bytes, int from) {
        int all = 0;
        for (int k = from; k < from + 4; k++) {
            all = all << 8 | (k < bytes.length ? bytes[k] & 255 : ' ');
        }
        return all;
    }

    /** The FAULT of a FOLIO that is refused. */
    void folioFault(String text, int fault, int place) {
        tape(text);
        due("folio() of " + text, folk.folio(), MarginFolk.NONE);
        due("fault(0) of " + text, folk.fault(0), fault);
        due("fault(1) of " + text, folk.fault(1), place);
    }

    /** The same of what stands on the tape. */
    void folioFaultOfTape(int fault, int place) {
        due("folio()", folk.folio(), MarginFolk.NONE);
        due("fault(0)", folk.fault(0), fault);
        due("fault(1)", folk.fault(1), place);
    }

    void folioGood(String text, int statements) {
        tape(text);
        due("folio() of " + text, folk.folio(), statements);
        due("fault(0) of " + text, folk.fault(0), 0);
        due("fault(1) of " + text, folk.fault(1), MarginFolk.NONE);
    }

    void ask(String text, long want) {
        tape(text);
        due("ask() of " + text, folk.ask(), want);
        due("fault(0) of " + text, folk.fault(0), 0);
    }

    void askFault(String text, int fault, int place) {
        tape(text);
        due("ask() of " + text, folk.ask(), MarginFolk.NOTHING);
        due("fault(0) of " + text, folk.fault(0), fault);
        due("fault(1) of " + text, folk.fault(1), place);
    }

    /** All that can be seen of the object but for refusals and the latest FAULT; looking changes nothing. */
    private List<Long> sight() {
        List<Long> all = new ArrayList<>();
        for (int what = 0; what <= 10; what++) {
            all.add((long) folk.has(what));
        }
        for (int k = 0; k < folk.has(4); k++) {
            all.add((long) folk.letter(k, 0));
            for (int what = 0; what <= 5; what++) {
                all.add((long) folk.being(k, what));
            }
        }
        for (int k = 0; k < folk.has(0) * folk.has(1); k++) {
            all.add((long) folk.cell(k / folk.has(1), k % folk.has(1), 0));
        }
        for (int k = 0; k < 3 * folk.has(8); k++) {
            all.add((long) folk.kept(k / 3, k % 3));
        }
        all.add((long) folk.lay(1));
        all.add((long) folk.octet(0));
        return all;
    }

    /** A call that is refused: the count of its kind alone grows, by one, and all else stays. */
    void refused(String call, int kind, LongSupplier answer, long want) {
        long[] counts = new long[6];
        for (int k = 0; k < counts.length; k++) {
            counts[k] = folk.status(k);
        }
        List<Long> before = sight();
        due(call, answer.getAsLong(), want);
        for (int k = 0; k < counts.length; k++) {
            due("status(" + k + ") behind " + call, folk.status(k), counts[k] + (k == kind ? 1 : 0));
        }
        due("all stays behind " + call, sight().equals(before), true);
    }

    /** A FOLIO that is refused; the sign @ marks the place of its FAULT. */
    void refusedFolio(int fault, String marked) {
        String text = marked.replace("@", "");
        tape(text);
        refused("folio() of " + text, 1, folk::folio, MarginFolk.NONE);
        due("fault(0) of " + text, folk.fault(0), fault);
        due("fault(1) of " + text, folk.fault(1), marked.indexOf('@'));
        due("the tape goes: feed", folk.feed(0, 0, 0, 0, 0), 20);
    }

    int[] image() {
        int[] bytes = new int[folk.image()];
        for (int k = 0; k < bytes.length; k++) {
            bytes[k] = folk.octet(k);
        }
        return bytes;
    }

    /** The bytes with the last one that makes them AN IMAGE. */
    static int[] sealed(int... bytes) {
        int[] all = java.util.Arrays.copyOf(bytes, bytes.length + 1);
        int sum = 83;
        for (int b : bytes) {
            sum = (3 * sum + b) % 251;
        }
        all[bytes.length] = sum;
        return all;
    }

    /** Ends the test: exit code 1, if an answer was not as due. */
    static void finish() {
        System.out.println(seen + " answers, " + wrong + " wrong");
        if (wrong != 0 || seen == 0) {
            System.exit(1);
        }
    }
}
