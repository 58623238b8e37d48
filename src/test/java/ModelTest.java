import java.util.ArrayList;
import java.util.List;
import java.util.Random;

/** Promises 1 to 32: long runs of calls, each answer compared with that of the plain model. */
public final class ModelTest {
    private static final String[] WORDS = ("folio cells gloss worm being on at trade opens corn toll steps thumb day leaf cell purse "
            + "open other number met meets or and not all min max first last often total most least zed a 0 7 12 345 6789 12345 "
            + "( ) [ ] , ; < > = + - * /").split(" ");

    // what is answered behind so many calls is free
    private static final int MOST_CALLS = 512;
    private static final int DEAREST_STEP = 150;
    private static final int DEAREST_CHECK = 150;

    private final Random random;
    private final MarginFolk folk = new MarginFolk();
    private final Model model = new Model();
    private final List<String> told = new ArrayList<>();
    private int calls = 0;

    private ModelTest(long seed) {
        random = new Random(seed);
    }

    public static void main(String[] args) {
        int runs = args.length > 0 ? Integer.parseInt(args[0]) : 5000;
        int from = args.length > 1 ? Integer.parseInt(args[1]) : 0;
        long answers = 0;
        for (int seed = from; seed < from + runs; seed++) {
            ModelTest run = new ModelTest(seed);
            if (!run.run()) {
                System.out.println("seed " + seed);
                run.told.forEach(System.out::println);
                System.exit(1);
            }
            answers += run.calls;
        }
        System.out.println(runs + " runs, " + answers + " answers as the model's");
    }

    private boolean same(String call, long got, long want) {
        calls++;
        told.add(call + " -> " + got + (got == want ? "" : ", the model: " + want));
        return got == want;
    }

    private boolean same(String call, boolean got, boolean want) {
        return same(call, got ? 1 : 0, want ? 1 : 0);
    }

    private int upTo(int n) {
        return random.nextInt(n + 1);
    }

    /** Mostly one that can be, at times one beyond. */
    private int near(int n) {
        return random.nextInt(8) == 0 ? random.nextInt(n + 4) - 2 : upTo(Math.max(0, n - 1));
    }

    private boolean run() {
        boolean good = true;
        if (random.nextInt(20) != 0) {
            good = folio();
        }
        for (int k = 0; k < 60 && good && calls + DEAREST_STEP + DEAREST_CHECK <= MOST_CALLS; k++) {
            good = step();
        }
        good = good && check();
        return good && calls <= MOST_CALLS;
    }

    private boolean step() {
        int being = near(model.has(4));
        int leaf = near(model.has(0));
        int cell = near(model.has(1));
        switch (random.nextInt(20)) {
            case 0: return random.nextInt(4) != 0 || folio();
            case 1: return tapeOf(question()) && same("ask()", folk.ask(), model.ask()) && faults();
            case 2: return tapeOf(question()) && same("ask()", folk.ask(), model.ask()) && faults();
            case 3: return act(being, leaf, cell);
            case 4: return act(being, leaf, cell);
            case 5: return seen();
            case 6: return image();
            case 7: return reading();
            case 8: return later(being);
            case 9: return same("way(" + being + ", " + leaf + ", " + cell + ")", folk.way(being, leaf, cell), model.way(being, leaf, cell));
            case 10: return same("way(" + being + ", " + leaf + ", " + cell + ")", folk.way(being, leaf, cell), model.way(being, leaf, cell));
            case 11: return trim(leaf);
            case 12: return cells(leaf, cell);
            case 13: return meets(being);
            case 14: return openings();
            case 15: return act(being, leaf, cell);
            case 16: return random.nextInt(3) != 0 || check();
            case 17: return far();
            case 18: return same("undo()", folk.undo(), model.undo());
            default: return wild();
        }
    }

    private boolean act(int being, int leaf, int cell) {
        int n = random.nextInt(10) == 0 ? random.nextInt(110) - 4 : 1 + random.nextInt(6);
        switch (random.nextInt(4)) {
            case 0: return same("go(" + being + ", " + leaf + ", " + cell + ")", folk.go(being, leaf, cell), model.go(being, leaf, cell));
            case 1: return random.nextInt(3) != 0 || same("gloss(" + leaf + ", " + cell + ")", folk.gloss(leaf, cell), model.gloss(leaf, cell));
            case 2: return same("days(" + n + ")", folk.days(n), model.days(n));
            default: return same("chance(" + n + ")", folk.chance(n), model.chance(n));
        }
    }

    private boolean reading() {
        int n = random.nextInt(5);
        int k = near(3) - 1;
        return same("reading(" + n + ", " + k + ")", folk.reading(n, k), model.reading(n, k));
    }

    private boolean later(int being) {
        int n = random.nextInt(3) == 0 ? random.nextInt(64) - 1 : random.nextInt(8);
        int what = near(3);
        return same("later(" + being + ", " + n + ", " + what + ")", folk.later(being, n, what), model.later(being, n, what))
                && same("opening(" + n + ")", folk.opening(n), model.opening(n));
    }

    private boolean trim(int leaf) {
        boolean good = true;
        for (int many = -1; many <= 8; many++) {
            good = good && same("trim(" + leaf + ", " + many + ")", folk.trim(leaf, many), model.trim(leaf, many));
        }
        return good;
    }

    private boolean cells(int leaf, int cell) {
        boolean good = true;
        for (int what = -1; what <= 4; what++) {
            good = good && same("cell(" + leaf + ", " + cell + ", " + what + ")", folk.cell(leaf, cell, what), model.cell(leaf, cell, what));
        }
        return good;
    }

    private boolean meets(int being) {
        boolean good = same("apart()", folk.apart(), model.apart());
        for (int k = -1; k <= 7; k++) {
            good = good && same("pairs(" + k + ")", folk.pairs(k), model.pairs(k))
                    && same("meets(" + being + ", " + k + ")", folk.meets(being, k), model.meets(being, k));
        }
        return good;
    }

    private boolean openings() {
        boolean good = true;
        for (int what = -1; what <= 2; what++) {
            good = good && same("lay(" + what + ")", folk.lay(what), model.lay(what))
                    && same("after(" + what + ")", folk.after(what), model.after(what));
        }
        return good;
    }

    /** Calls with numbers from anywhere. */
    private boolean wild() {
        int a = random.nextInt();
        int b = random.nextInt();
        int c = random.nextInt();
        boolean good = same("has(" + a + ")", folk.has(a), model.has(a))
                && same("letter(" + a + ", " + b + ")", folk.letter(a, b), model.letter(a, b))
                && same("being(0, " + b + ")", folk.being(0, b), model.being(0, b))
                && same("cell(0, " + b + ", 0)", folk.cell(0, b, 0), model.cell(0, b, 0))
                && same("kept(" + a + ", 0)", folk.kept(a, 0), model.kept(a, 0))
                && same("octet(" + a + ")", folk.octet(a), model.octet(a))
                && same("later(0, " + b + ", 0)", folk.later(0, b, 0), model.later(0, b, 0))
                && same("reading(" + b + ", 0)", folk.reading(b, 0), model.reading(b, 0))
                && same("reading(1, " + b + ")", folk.reading(1, b), model.reading(1, b));
        return good && same("opening(" + c + ")", folk.opening(c), model.opening(c))
                && same("way(0, " + b + ", " + c + ")", folk.way(0, b, c), model.way(0, b, c))
                && same("trim(0, " + b + ")", folk.trim(0, b), model.trim(0, b))
                && same("go(0, 0, " + b + ")", folk.go(0, 0, b), model.go(0, 0, b))
                && same("gloss(" + a + ", 0)", folk.gloss(a, 0), model.gloss(a, 0))
                && same("days(" + a + ")", folk.days(a), model.days(a))
                && same("chance(" + a + ")", folk.chance(a), model.chance(a))
                && same("seed(" + a + ")", folk.seed(a), model.seed(a))
                && same("end(" + a + ")", folk.end(a), model.end(a))
                && same("status(" + a + ")", folk.status(a), model.status(a));
    }

    private boolean seen() {
        int rows = random.nextInt(12) == 0 ? random.nextInt(20) : 1 + random.nextInt(2);
        StringBuilder bytes = new StringBuilder();
        for (int k = 0; k < rows; k++) {
            int being = upTo(Math.max(0, model.has(4) - 1));
            int cell = random.nextBoolean() && model.has(4) > 0 ? Math.max(0, model.being(being, 1) + random.nextInt(2)) : near(model.has(1));
            bytes.append((char) being).append((char) Math.max(0, cell));
        }
        if (random.nextInt(15) == 0) {
            bytes.append('?');
        }
        return tapeOf(bytes.toString()) && same("see()", folk.see(), model.see());
    }

    private boolean image() {
        if (!same("image()", folk.image(), model.image())) {
            return false;
        }
        boolean good = true;
        int size = model.image();
        int[] bytes = new int[size];
        for (int k = 0; k < size; k++) {
            bytes[k] = folk.octet(k);
            good = good && same("octet(" + k + ")", bytes[k], model.octet(k));
        }
        if (random.nextInt(3) == 0) {
            int changes = random.nextInt(3);
            int[] body = java.util.Arrays.copyOf(bytes, size - 1);
            for (int k = 0; k < changes; k++) {
                body[random.nextInt(body.length)] = random.nextInt(3) == 0 ? random.nextInt(256) : random.nextInt(8);
            }
            body[0] = random.nextInt(4) == 0 ? 3 : body[0];
            body[1] = random.nextInt(4) == 0 ? 220 + random.nextInt(14) : body[1];
            int[] all = random.nextInt(6) == 0 ? body : Check.sealed(body);
            good = good && tapeOf(new String(all, 0, all.length)) && same("on()", folk.on(), model.on());
        }
        return good;
    }

    /** To a DAY near the last one. */
    private boolean far() {
        if (random.nextInt(4) != 0) {
            return same("seed(5)", folk.seed(5), model.seed(5));
        }
        int[] body = new int[model.image() - 1];
        for (int k = 0; k < body.length; k++) {
            body[k] = model.octet(k);
        }
        if (!same("image()", folk.image(), body.length + 1)) {
            return false;
        }
        body[0] = 3;
        body[1] = 0xe7 - random.nextInt(5);
        int[] all = Check.sealed(body);
        return tapeOf(new String(all, 0, all.length)) && same("on()", folk.on(), model.on());
    }

    private boolean check() {
        boolean good = faults();
        for (int what = -1; what <= 11; what++) {
            good = good && same("has(" + what + ")", folk.has(what), model.has(what))
                    && same("status(" + what + ")", folk.status(what), model.status(what));
        }
        for (int k = 0; k < model.has(4); k++) {
            for (int what = 0; what <= 5; what++) {
                good = good && same("being(" + k + ", " + what + ")", folk.being(k, what), model.being(k, what));
            }
            int letter = near(6);
            good = good && same("letter(" + k + ", " + letter + ")", folk.letter(k, letter), model.letter(k, letter));
        }
        int first = random.nextInt(2);
        for (int k = first; k <= 40; k += 2) {
            int what = near(3);
            good = good && same("kept(" + k + ", " + what + ")", folk.kept(k, what), model.kept(k, what));
        }
        return good;
    }

    private boolean faults() {
        boolean good = true;
        for (int what = -1; what <= 2; what++) {
            good = good && same("fault(" + what + ")", folk.fault(what), model.fault(what));
        }
        return good;
    }

    private boolean tapeOf(String text) {
        told.add("tape: " + text);
        boolean good = folk.end(0) == model.end(0);
        calls += 2;
        for (int k = 0; k < text.length(); k += 20) {
            calls++;
            int[] n = new int[5];
            for (int j = 0; j < 20; j++) {
                n[j / 4] = n[j / 4] << 8 | (k + j < text.length() ? text.charAt(k + j) : 32);
            }
            good = good && folk.feed(n[0], n[1], n[2], n[3], n[4]) == model.feed(n);
        }
        return good && folk.end(text.length()) == model.end(text.length());
    }

    // ---- texts

    private boolean folio() {
        String text = folioText();
        int changes = random.nextInt(3) == 0 ? 1 + random.nextInt(2) : 0;
        for (int k = 0; k < changes; k++) {
            text = changed(text);
        }
        if (text.length() > 1600) {
            text = text.substring(0, 1600);
        }
        return tapeOf(text) && same("folio()", folk.folio(), model.folio()) && faults();
    }

    private String changed(String text) {
        int at = random.nextInt(text.length() + 1);
        int to = Math.min(text.length(), at + 1 + random.nextInt(3));
        String word = WORDS[random.nextInt(WORDS.length)];
        switch (random.nextInt(6)) {
            case 0: return text.substring(0, at) + text.substring(to);
            case 1: return text.substring(0, at) + word + text.substring(at);
            case 2: return text.substring(0, at) + " " + word + " " + text.substring(to);
            case 3: return text.substring(0, at);
            case 4: return text.substring(0, at) + (char) random.nextInt(256) + text.substring(to);
            default: return text.substring(0, at) + text.substring(Math.min(text.length(), at + random.nextInt(20)));
        }
    }

    private String folioText() {
        int leaves = 1 + random.nextInt(6);
        int cells = 2 + random.nextInt(7);
        StringBuilder all = new StringBuilder("folio " + leaves + " cells " + cells + ";");
        List<String> rest = new ArrayList<>();
        boolean[][] taken = new boolean[leaves][cells];
        int glosses = random.nextInt(3) == 0 ? random.nextInt(24) : random.nextInt(4);
        for (int k = 0; k < glosses; k++) {
            place(rest, taken, "gloss %d %d");
        }
        int worms = random.nextInt(8) == 0 ? random.nextInt(15) : random.nextInt(4);
        for (int k = 0; k < worms && leaves > 1; k++) {
            int one = random.nextInt(leaves);
            rest.add("worm " + one + " " + (one + 1 + random.nextInt(leaves - 1)) % leaves + " " + random.nextInt(cells));
        }
        int beings = random.nextInt(10) == 0 ? random.nextInt(11) : random.nextInt(9);
        for (int k = 0; k < beings; k++) {
            String name = random.nextInt(40) == 0 ? WORDS[random.nextInt(WORDS.length)] : "" + (char) ('a' + k) + "bcdefg".substring(0, random.nextInt(6));
            place(rest, taken, "being " + name + " on %d at %d trade " + random.nextInt(10));
        }
        rules(rest);
        if (random.nextInt(10) == 0) {
            for (int k = 0; k < 80; k++) {
                rest.add("thumb 0" + random.nextInt(101));
            }
        }
        java.util.Collections.shuffle(rest, random);
        for (String statement : rest) {
            all.append(random.nextInt(4) == 0 ? "\n " : "").append(statement).append(random.nextInt(6) == 0 ? " ;" : ";");
        }
        return all.toString();
    }

    private void place(List<String> rest, boolean[][] taken, String form) {
        int leaf = random.nextInt(taken.length);
        int cell = random.nextInt(taken[0].length);
        if (!taken[leaf][cell] || random.nextInt(60) == 0) {
            taken[leaf][cell] = true;
            rest.add(String.format(form, leaf, cell));
        }
    }

    private void rules(List<String> rest) {
        String[] day = {"day"};
        String[] parts = {"day", "leaf", "cell", "trade", "purse", "open"};
        String[] more = {"day", "leaf", "cell", "trade", "purse", "open", "other", "other"};
        if (random.nextInt(5) != 0) {
            rest.add("opens " + sum(day, 3));
        }
        if (random.nextInt(3) != 0) {
            rest.add("corn " + sum(parts, 3));
        }
        if (random.nextInt(3) != 0) {
            rest.add("toll " + sum(more, 3));
        }
        if (random.nextInt(4) != 0) {
            rest.add("steps " + test(parts, 2));
        }
        if (random.nextBoolean()) {
            rest.add("thumb " + random.nextInt(101));
        }
        if (random.nextInt(30) == 0) {
            rest.add("corn day");
        }
    }

    private String question() {
        String[] parts = {"number", "leaf", "cell", "trade", "purse", "open", "met", "day", "meets"};
        String[] kinds = {"first ", "last ", "often ", "total ", "most ", "least "};
        int kind = random.nextInt(6);
        String text = kinds[kind] + (kind < 3 ? test(parts, 3) : sum(parts, 3));
        if (random.nextInt(3) == 0) {
            text = changed(text);
        }
        return text.length() > 1600 ? text.substring(0, 1600) : text;
    }

    private String test(String[] parts, int depth) {
        StringBuilder all = new StringBuilder(fact(parts, depth));
        for (int k = random.nextInt(3); k > 0; k--) {
            all.append(random.nextBoolean() ? " and " : " or ").append(fact(parts, depth));
        }
        return all.toString();
    }

    private String fact(String[] parts, int depth) {
        int kind = random.nextInt(8);
        if (kind == 0) {
            return "all";
        }
        if (kind == 1 && depth > 0 || kind == 2 && random.nextInt(3) == 0) {
            return "not " + fact(parts, depth - 1);
        }
        if (kind == 3 && depth > 0) {
            return "[" + test(parts, depth - 1) + "]";
        }
        return sum(parts, depth) + "<>=".charAt(random.nextInt(3)) + sum(parts, depth);
    }

    private String sum(String[] parts, int depth) {
        StringBuilder all = new StringBuilder(part(parts, depth));
        for (int k = random.nextInt(4) - 1; k > 0; k--) {
            all.append(random.nextInt(8) == 0 ? " " : "").append("+-*/".charAt(random.nextInt(4))).append(part(parts, depth));
        }
        return all.toString();
    }

    private String part(String[] parts, int depth) {
        int kind = random.nextInt(10);
        if (kind < 2 && depth > 0 || kind == 9 && random.nextInt(40) == 0) {
            return "(" + sum(parts, depth - 1) + ")";
        }
        if (kind == 2 && depth > 0) {
            return (random.nextBoolean() ? "min(" : "max( ") + sum(parts, depth - 1) + "," + sum(parts, depth - 1) + ")";
        }
        if (kind < 6) {
            return "" + random.nextInt(random.nextInt(6) == 0 ? 10000 : 10);
        }
        String word = parts[random.nextInt(parts.length)];
        return word.equals("meets") ? "meets " + part(parts, depth - 1) : word;
    }
}
