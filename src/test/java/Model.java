import java.util.ArrayDeque;
import java.util.ArrayList;
import java.util.Arrays;
import java.util.Deque;
import java.util.HashMap;
import java.util.HashSet;
import java.util.List;
import java.util.Map;
import java.util.Set;

/**
 * The document once more, written plainly and without regard to cost, for ModelTest to compare with.
 * It shares no code with the class: trees in place of scripts, full searches in place of short ones.
 */
final class Model {
    static final int NONE = -1;

    /** A FAULT ends the reading at once. */
    static final class Fault extends RuntimeException {
        private static final long serialVersionUID = 1L;
        final int code;
        final int place;

        Fault(int code, int place) {
            this.code = code;
            this.place = place;
        }
    }

    /** What a SUM or TEST may ask for while it is reckoned. */
    interface Scene {
        long part(String word);

        long meets(long number);
    }

    interface Tree {
        long value(Scene scene);
    }

    static final class Being {
        String name;
        int trade;
        int leaf;
        int cell;
        int purse = 5;
        int met;

        Being copy() {
            Being b = new Being();
            b.name = name;
            b.trade = trade;
            b.leaf = leaf;
            b.cell = cell;
            b.purse = purse;
            b.met = met;
            return b;
        }
    }

    static final class World {
        int day;
        Set<String> glosses = new HashSet<>();
        List<Being> beings = new ArrayList<>();
        List<int[]> kept = new ArrayList<>();

        World copy() {
            World w = new World();
            w.day = day;
            w.glosses.addAll(glosses);
            for (Being b : beings) {
                w.beings.add(b.copy());
            }
            w.kept.addAll(kept);
            return w;
        }

        boolean glossed(int leaf, int cell) {
            return glosses.contains(leaf + ":" + cell);
        }

        int who(int leaf, int cell) {
            for (int k = 0; k < beings.size(); k++) {
                if (beings.get(k).leaf == leaf && beings.get(k).cell == cell) {
                    return k;
                }
            }
            return NONE;
        }

        boolean free(int leaf, int cell) {
            return !glossed(leaf, cell) && who(leaf, cell) == NONE;
        }
    }

    static final class Text {
        int leaves;
        int cells;
        int statements;
        List<int[]> worms = new ArrayList<>();
        Map<String, Tree> rules = new HashMap<>();
        int thumb;
        World first = new World();
    }

    // ---- reading, byte by byte

    static final Set<String> OWN = new HashSet<>(Arrays.asList(("folio cells gloss worm being on at trade opens corn toll steps "
            + "thumb day leaf cell purse open other number met meets or and not all min max").split(" ")));

    static final class Reader {
        final String text;
        int p;
        Set<String> parts = new HashSet<>();

        Reader(String text) {
            this.text = text;
        }

        boolean letter(int k) {
            return k >= 0 && k < text.length() && text.charAt(k) >= 'a' && text.charAt(k) <= 'z';
        }

        boolean digit(int k) {
            return k >= 0 && k < text.length() && text.charAt(k) >= '0' && text.charAt(k) <= '9';
        }

        void blanks() {
            while (p < text.length() && (text.charAt(p) == ' ' || text.charAt(p) == 10)) {
                p++;
            }
        }

        /** A word or number that leans on the one ahead of it goes on no text. */
        void apartFromLast() {
            boolean here = letter(p) || digit(p);
            boolean ahead = letter(p - 1) || digit(p - 1);
            if (here && ahead) {
                throw new Fault(1, p);
            }
        }

        String peekWord() {
            blanks();
            if (p < text.length()) {
                apartFromLast();
            }
            int q = p;
            while (letter(q)) {
                q++;
            }
            return text.substring(p, q);
        }

        boolean tryWord(String word) {
            if (peekWord().equals(word)) {
                p += word.length();
                return true;
            }
            return false;
        }

        void word(String word) {
            if (!tryWord(word)) {
                throw new Fault(1, p);
            }
        }

        boolean trySign(char sign) {
            blanks();
            if (p < text.length() && text.charAt(p) == sign) {
                p++;
                return true;
            }
            return false;
        }

        void sign(char sign) {
            if (!trySign(sign)) {
                throw new Fault(1, p);
            }
        }

        int number() {
            peekWord();
            if (!digit(p)) {
                throw new Fault(1, p);
            }
            int from = p;
            while (digit(p)) {
                if (p == from + 4) {
                    throw new Fault(1, p);
                }
                p++;
            }
            return Integer.parseInt(text.substring(from, p));
        }

        int number(int low, int high) {
            blanks();
            int from = p;
            int n = number();
            if (n < low || n > high) {
                throw new Fault(2, from);
            }
            return n;
        }

        Tree test(int open) {
            Tree left = both(open);
            while (tryWord("or")) {
                Tree a = left;
                Tree b = both(open);
                left = s -> a.value(s) != 0 || b.value(s) != 0 ? 1 : 0;
            }
            return left;
        }

        Tree both(int open) {
            Tree left = fact(open);
            while (tryWord("and")) {
                Tree a = left;
                Tree b = fact(open);
                left = s -> a.value(s) != 0 && b.value(s) != 0 ? 1 : 0;
            }
            return left;
        }

        void opened(int open, int at) {
            if (open == 6) {
                throw new Fault(4, at);
            }
        }

        Tree fact(int open) {
            if (tryWord("all")) {
                return s -> 1;
            }
            if (tryWord("not")) {
                opened(open, p - 3);
                Tree a = fact(open + 1);
                return s -> a.value(s) != 0 ? 0 : 1;
            }
            if (trySign('[')) {
                opened(open, p - 1);
                Tree a = test(open + 1);
                sign(']');
                return a;
            }
            Tree a = sum(open);
            char c = trySign('<') ? '<' : trySign('>') ? '>' : '=';
            if (c == '=') {
                sign('=');
            }
            Tree b = sum(open);
            return s -> {
                long x = a.value(s);
                long y = b.value(s);
                return (c == '<' ? x < y : c == '>' ? x > y : x == y) ? 1 : 0;
            };
        }

        static long cut(long x) {
            return x > 1000000 ? 1000000 : x < -1000000 ? -1000000 : x;
        }

        Tree sum(int open) {
            Tree left = product(open);
            while (true) {
                Tree a = left;
                if (trySign('+')) {
                    Tree b = product(open);
                    left = s -> cut(a.value(s) + b.value(s));
                } else if (trySign('-')) {
                    Tree b = product(open);
                    left = s -> cut(a.value(s) - b.value(s));
                } else {
                    return left;
                }
            }
        }

        Tree product(int open) {
            Tree left = part(open);
            while (true) {
                Tree a = left;
                if (trySign('*')) {
                    Tree b = part(open);
                    left = s -> cut(a.value(s) * b.value(s));
                } else if (trySign('/')) {
                    Tree b = part(open);
                    left = s -> {
                        long y = b.value(s);
                        return y == 0 ? 0 : (long) Math.floor((double) a.value(s) / y);
                    };
                } else {
                    return left;
                }
            }
        }

        Tree part(int open) {
            String word = peekWord();
            if (digit(p)) {
                int n = number();
                return s -> n;
            }
            if (trySign('(')) {
                opened(open, p - 1);
                Tree a = sum(open + 1);
                sign(')');
                return a;
            }
            if (word.equals("min") || word.equals("max")) {
                p += 3;
                sign('(');
                opened(open, p - 1);
                Tree a = sum(open + 1);
                sign(',');
                Tree b = sum(open + 1);
                sign(')');
                return word.equals("min") ? s -> Math.min(a.value(s), b.value(s)) : s -> Math.max(a.value(s), b.value(s));
            }
            if (!parts.contains(word)) {
                throw new Fault(1, p);
            }
            if (word.equals("meets")) {
                opened(open, p);
                p += 5;
                Tree a = part(open + 1);
                return s -> s.meets(a.value(s));
            }
            p += word.length();
            return s -> s.part(word);
        }

        Text folio() {
            Text t = new Text();
            Map<String, Integer> most = Map.of("gloss", 20, "worm", 12, "being", 8, "opens", 1, "corn", 1, "toll", 1,
                    "steps", 1, "thumb", 1000, "folio", 1);
            Map<String, Integer> count = new HashMap<>();
            for (blanks(); p < text.length(); blanks()) {
                if (t.statements == 80) {
                    throw new Fault(5, p);
                }
                String word = peekWord();
                if (!most.containsKey(word) || word.equals("folio") != (t.statements == 0)) {
                    throw new Fault(1, p);
                }
                if (count.merge(word, 1, Integer::sum) > most.get(word)) {
                    throw new Fault(5, p);
                }
                p += word.length();
                statement(t, word);
                sign(';');
                t.statements++;
            }
            if (t.statements == 0) {
                throw new Fault(1, text.length());
            }
            return t;
        }

        void statement(Text t, String word) {
            if (word.equals("folio")) {
                t.leaves = number(1, 6);
                word("cells");
                t.cells = number(2, 8);
            } else if (word.equals("gloss")) {
                int leaf = number(0, t.leaves - 1);
                t.first.glosses.add(leaf + ":" + cell(t, leaf));
            } else if (word.equals("worm")) {
                int one = number(0, t.leaves - 1);
                blanks();
                int at = p;
                int other = number(0, t.leaves - 1);
                if (one == other) {
                    throw new Fault(2, at);
                }
                t.worms.add(new int[] {one, other, number(0, t.cells - 1)});
            } else if (word.equals("being")) {
                being(t);
            } else if (word.equals("thumb")) {
                t.thumb = number(0, 100);
            } else {
                parts.clear();
                parts.add("day");
                if (!word.equals("opens")) {
                    parts.addAll(Arrays.asList("leaf", "cell", "trade", "purse", "open"));
                }
                if (word.equals("toll")) {
                    parts.add("other");
                }
                t.rules.put(word, word.equals("steps") ? test(0) : sum(0));
            }
        }

        int cell(Text t, int leaf) {
            blanks();
            int at = p;
            int cell = number(0, t.cells - 1);
            if (!t.first.free(leaf, cell)) {
                throw new Fault(2, at);
            }
            return cell;
        }

        void being(Text t) {
            String name = peekWord();
            if (name.length() > 6) {
                throw new Fault(1, p + 6);
            }
            if (name.isEmpty() || OWN.contains(name)) {
                throw new Fault(1, p);
            }
            for (Being b : t.first.beings) {
                if (b.name.equals(name)) {
                    throw new Fault(3, p);
                }
            }
            p += name.length();
            Being b = new Being();
            b.name = name;
            word("on");
            b.leaf = number(0, t.leaves - 1);
            word("at");
            b.cell = cell(t, b.leaf);
            word("trade");
            b.trade = number(0, 9);
            t.first.beings.add(b);
        }
    }

    // ---- the object

    private final StringBuilder tape = new StringBuilder();
    private Text text;
    private World now = new World();
    private final Deque<World> acts = new ArrayDeque<>();
    private final int[] refused = new int[6];
    private List<int[]> seen = new ArrayList<>();
    private int[] picture = {};
    private int fault = 0;
    private int place = NONE;
    private long x = 1;

    private int refuse(int what) {
        refused[what]++;
        return NONE;
    }

    int feed(int... numbers) {
        if (tape.length() > 1580) {
            return refuse(0);
        }
        for (int n : numbers) {
            for (int s = 24; s >= 0; s -= 8) {
                tape.append((char) (n >>> s & 255));
            }
        }
        return tape.length();
    }

    boolean end(int n) {
        if (n < 0 || n > tape.length()) {
            refuse(0);
            return false;
        }
        tape.setLength(n);
        return true;
    }

    private String take() {
        String all = tape.toString();
        tape.setLength(0);
        return all;
    }

    int folio() {
        try {
            text = new Reader(take()).folio();
        } catch (Fault f) {
            fault = f.code;
            place = f.place;
            return refuse(1);
        }
        fault = 0;
        place = NONE;
        now = text.first.copy();
        acts.clear();
        seen.clear();
        return text.statements;
    }

    int fault(int what) {
        return what == 0 ? fault : what == 1 ? place : NONE;
    }

    private int leaves() {
        return text == null ? 0 : text.leaves;
    }

    private int opening(World w, int day) {
        if (text == null || !text.rules.containsKey("opens")) {
            return 0;
        }
        long v = text.rules.get("opens").value(new Scene() {
            @Override
            public long part(String word) {
                return day;
            }

            @Override
            public long meets(long number) {
                return 0;
            }
        });
        while (v < 0) {
            v += (text.leaves + 1) * 1000L;
        }
        return (int) (v % (text.leaves + 1));
    }

    /** Leaves that lie on one another, as rows of the one ahead and the next. */
    private List<int[]> lying(int opening) {
        List<int[]> all = new ArrayList<>();
        for (int leaf = 0; leaf < leaves() - 1; leaf++) {
            boolean ahead = opening > 0 && leaf == opening - 1;
            boolean behind = leaf == opening;
            if (!ahead && !behind) {
                all.add(new int[] {leaf, leaf + 1});
            }
        }
        return all;
    }

    private boolean open(int leaf, int opening) {
        return leaf == opening || leaf == opening - 1;
    }

    private boolean meet(World w, int one, int other, int opening) {
        Being a = w.beings.get(one);
        Being b = w.beings.get(other);
        for (int[] pair : lying(opening)) {
            boolean so = a.leaf == pair[0] && b.leaf == pair[1] || a.leaf == pair[1] && b.leaf == pair[0];
            if (so && a.cell + b.cell == text.cells - 1) {
                return true;
            }
        }
        return false;
    }

    private int count(World w, int opening) {
        int n = 0;
        for (int a = 0; a < w.beings.size(); a++) {
            for (int b = a + 1; b < w.beings.size(); b++) {
                n += meet(w, a, b, opening) ? 1 : 0;
            }
        }
        return n;
    }

    private Scene scene(World w, int being, int opening, int other) {
        Being b = w.beings.get(being);
        return new Scene() {
            @Override
            public long part(String word) {
                switch (word) {
                    case "day": return w.day;
                    case "leaf": return b.leaf;
                    case "cell": return b.cell;
                    case "trade": return b.trade;
                    case "purse": return b.purse;
                    case "open": return open(b.leaf, opening) ? 1 : 0;
                    case "other": return w.beings.get(other).trade;
                    case "number": return being;
                    case "met": return b.met;
                    default: throw new IllegalStateException(word);
                }
            }

            @Override
            public long meets(long number) {
                return number >= 0 && number < w.beings.size() && number != being && meet(w, being, (int) number, opening) ? 1 : 0;
            }
        };
    }

    private int pass(World w, int opening) {
        int pairs = 0;
        for (int one = 0; one < w.beings.size(); one++) {
            for (int other = one + 1; other < w.beings.size(); other++) {
                if (!meet(w, one, other, opening)) {
                    continue;
                }
                pairs++;
                Being a = w.beings.get(one);
                Being b = w.beings.get(other);
                a.met = Math.min(9999, a.met + 1);
                b.met = Math.min(9999, b.met + 1);
                w.kept.add(new int[] {w.day, one, other});
                long toll = text.rules.containsKey("toll") ? text.rules.get("toll").value(scene(w, one, opening, other)) : 1;
                if (toll >= 0) {
                    pay(a, b, toll);
                } else {
                    pay(b, a, -toll);
                }
            }
        }
        for (int k = 0; k < w.beings.size(); k++) {
            Being b = w.beings.get(k);
            long corn = text.rules.containsKey("corn") ? text.rules.get("corn").value(scene(w, k, opening, k)) : b.cell;
            corn = corn > 99 ? 99 : corn < -99 ? -99 : corn;
            b.purse = (int) Math.min(9999, Math.max(0, b.purse + corn));
        }
        for (int k = 0; k < w.beings.size(); k++) {
            Being b = w.beings.get(k);
            boolean steps = text.rules.containsKey("steps") && text.rules.get("steps").value(scene(w, k, opening, k)) != 0;
            if (steps && b.cell + 1 < text.cells && w.free(b.leaf, b.cell + 1)) {
                b.cell++;
            }
        }
        w.day++;
        return pairs;
    }

    private static void pay(Being from, Being to, long toll) {
        int paid = (int) Math.min(toll, from.purse);
        from.purse -= paid;
        to.purse = Math.min(9999, to.purse + paid);
    }

    private boolean isBeing(int k) {
        return k >= 0 && k < now.beings.size();
    }

    private boolean isCell(int leaf, int cell) {
        return text != null && leaf >= 0 && leaf < text.leaves && cell >= 0 && cell < text.cells;
    }

    private int here() {
        return opening(now, now.day);
    }

    int has(int what) {
        int purses = 0;
        for (Being b : now.beings) {
            purses += b.purse;
        }
        int[] all = {leaves(), text == null ? 0 : text.cells, now.glosses.size(), text == null ? 0 : text.worms.size(),
            now.beings.size(), now.day, here(), purses, Math.min(40, now.kept.size()), seen.size(), acts.size()};
        return what < 0 || what >= all.length ? NONE : all[what];
    }

    int letter(int being, int k) {
        if (!isBeing(being) || k < 0 || k > 5) {
            return NONE;
        }
        String name = now.beings.get(being).name;
        return k < name.length() ? name.charAt(k) - 'a' + 1 : 0;
    }

    int being(int being, int what) {
        if (!isBeing(being) || what < 0 || what > 5) {
            return NONE;
        }
        Being b = now.beings.get(being);
        return new int[] {b.leaf, b.cell, b.trade, b.purse, b.met, open(b.leaf, here()) ? 1 : 0}[what];
    }

    int cell(int leaf, int cell, int what) {
        if (!isCell(leaf, cell) || what < 0 || what > 3) {
            return NONE;
        }
        int on = NONE;
        for (int[] pair : lying(here())) {
            if (on == NONE && pair[1] == leaf) {
                on = pair[0];
            } else if (on == NONE && pair[0] == leaf) {
                on = pair[1];
            }
        }
        return new int[] {now.glossed(leaf, cell) ? 1 : 0, now.who(leaf, cell), on, on == NONE ? NONE : text.cells - 1 - cell}[what];
    }

    int kept(int k, int what) {
        int told = Math.min(40, now.kept.size());
        return k < 0 || k >= told || what < 0 || what > 2 ? NONE : now.kept.get(now.kept.size() - told + k)[what];
    }

    int meets(int one, int other) {
        return !isBeing(one) || !isBeing(other) || one == other ? NONE : meet(now, one, other, here()) ? 1 : 0;
    }

    int pairs(int opening) {
        return text == null || opening < -1 || opening > text.leaves ? NONE : count(now, opening == -1 ? here() : opening);
    }

    int apart() {
        if (text == null) {
            return NONE;
        }
        int best = 0;
        for (int o = 0; o <= text.leaves; o++) {
            best = count(now, o) < count(now, best) ? o : best;
        }
        return best;
    }

    int reading(int n, int k) {
        if (text == null || n < 1 || n > 3 || k < -1 || k >= n || now.day + n > 999) {
            return NONE;
        }
        int all = 1;
        for (int d = 0; d < n; d++) {
            all *= text.leaves + 1;
        }
        int fewest = Integer.MAX_VALUE;
        int[] best = {};
        for (int code = 0; code < all; code++) {
            int[] row = new int[n];
            int rest = code;
            for (int d = n - 1; d >= 0; d--) {
                row[d] = rest % (text.leaves + 1);
                rest /= text.leaves + 1;
            }
            World w = now.copy();
            int met = 0;
            for (int o : row) {
                met += pass(w, o);
            }
            if (met < fewest) {
                fewest = met;
                best = row;
            }
        }
        return k == -1 ? fewest : best[k];
    }

    int later(int being, int n, int what) {
        if (!isBeing(being) || n < 0 || n > 60 || now.day + n > 999 || what < 0 || what > 2) {
            return NONE;
        }
        World w = now.copy();
        w.kept.clear();
        for (int k = 0; k < n; k++) {
            pass(w, opening(w, w.day));
        }
        int met = 0;
        for (int[] row : w.kept) {
            met += row[1] == being || row[2] == being ? 1 : 0;
        }
        Being b = w.beings.get(being);
        return what == 0 ? b.cell : what == 1 ? b.purse : met;
    }

    int opening(int n) {
        return text == null || n < 0 || n > 60 || now.day + n > 999 ? NONE : opening(now, now.day + n);
    }

    int way(int being, int leaf, int cell) {
        if (!isBeing(being) || !isCell(leaf, cell)) {
            return NONE;
        }
        Being b = now.beings.get(being);
        Set<List<Integer>> at = new HashSet<>();
        at.add(List.of(b.leaf, b.cell));
        for (int days = 0; days <= 40 && now.day + days <= 999; days++) {
            if (at.contains(List.of(leaf, cell))) {
                return days;
            }
            Set<List<Integer>> next = new HashSet<>();
            for (List<Integer> here : at) {
                for (int[] to : stepsFrom(here.get(0), here.get(1), opening(now, now.day + days))) {
                    if (isCell(to[0], to[1]) && !now.glossed(to[0], to[1])) {
                        next.add(List.of(to[0], to[1]));
                    }
                }
            }
            at = next;
        }
        return NONE;
    }

    private List<int[]> stepsFrom(int leaf, int cell, int opening) {
        List<int[]> all = new ArrayList<>();
        all.add(new int[] {leaf, cell});
        all.add(new int[] {leaf, cell - 1});
        all.add(new int[] {leaf, cell + 1});
        for (int[] worm : text.worms) {
            if (worm[2] == cell && worm[0] == leaf) {
                all.add(new int[] {worm[1], cell});
            }
            if (worm[2] == cell && worm[1] == leaf) {
                all.add(new int[] {worm[0], cell});
            }
        }
        for (int[] pair : lying(opening)) {
            if (pair[0] == leaf) {
                all.add(new int[] {pair[1], text.cells - 1 - cell});
            }
            if (pair[1] == leaf) {
                all.add(new int[] {pair[0], text.cells - 1 - cell});
            }
        }
        return all;
    }

    int see() {
        String all = take();
        List<int[]> rows = new ArrayList<>();
        for (int k = 0; k + 1 < all.length(); k += 2) {
            rows.add(new int[] {all.charAt(k), all.charAt(k + 1)});
        }
        boolean good = text != null && all.length() % 2 == 0 && rows.size() >= 1 && rows.size() <= 16;
        for (int[] row : rows) {
            good = good && isBeing(row[0]) && isCell(0, row[1]);
        }
        if (!good) {
            return refuse(1);
        }
        seen = rows;
        return rows.size();
    }

    /** The worlds behind the next DAY by OPENINGS that agree with what is SEEN. */
    private Map<Integer, World> left() {
        Map<Integer, World> all = new HashMap<>();
        for (int o = 0; o <= text.leaves; o++) {
            World w = now.copy();
            pass(w, o);
            boolean good = true;
            for (int[] row : seen) {
                good = good && w.beings.get(row[0]).cell == row[1];
            }
            if (good) {
                all.put(o, w);
            }
        }
        return all;
    }

    int lay(int what) {
        if (text == null || now.day == 999 || what < 0 || what > 1) {
            return NONE;
        }
        int bits = 0;
        for (int o : left().keySet()) {
            bits += 1 << o;
        }
        return what == 0 ? left().size() : bits;
    }

    int after(int what) {
        if (text == null || now.day == 999 || what < 0 || what > 1 || left().isEmpty() || now.beings.isEmpty()) {
            return NONE;
        }
        int best = NONE;
        int fewest = 100;
        for (int k = 0; k < now.beings.size(); k++) {
            Map<Integer, Integer> groups = new HashMap<>();
            int most = 0;
            for (World w : left().values()) {
                most = Math.max(most, groups.merge(w.beings.get(k).cell, 1, Integer::sum));
            }
            if (most < fewest) {
                fewest = most;
                best = k;
            }
        }
        return what == 0 ? best : fewest;
    }

    int trim(int leaf, int many) {
        if (!isCell(leaf, 0) || many < 1 || many > text.cells - 1) {
            return NONE;
        }
        List<Integer> gone = new ArrayList<>();
        for (int c = text.cells - many; c < text.cells; c++) {
            if (now.who(leaf, c) != NONE) {
                gone.add(c);
            }
        }
        boolean[] free = new boolean[text.cells - many];
        for (int c = 0; c < free.length; c++) {
            free[c] = now.free(leaf, c);
        }
        int best = place(gone, 0, free);
        return best >= 100000 ? NONE : best;
    }

    private static int place(List<Integer> gone, int k, boolean[] free) {
        if (k == gone.size()) {
            return 0;
        }
        int best = 100000;
        for (int c = 0; c < free.length; c++) {
            if (free[c]) {
                free[c] = false;
                best = Math.min(best, gone.get(k) - c + place(gone, k + 1, free));
                free[c] = true;
            }
        }
        return best;
    }

    private void act() {
        acts.addLast(now.copy());
        if (acts.size() > 20) {
            acts.removeFirst();
        }
    }

    boolean go(int being, int leaf, int cell) {
        if (!isBeing(being) || !isCell(leaf, cell) || !now.free(leaf, cell)) {
            refuse(2);
            return false;
        }
        act();
        now.beings.get(being).leaf = leaf;
        now.beings.get(being).cell = cell;
        return true;
    }

    int gloss(int leaf, int cell) {
        if (!isCell(leaf, cell) || now.glossed(leaf, cell)) {
            return refuse(2);
        }
        int who = now.who(leaf, cell);
        int to = NONE;
        for (int c = 0; c < text.cells; c++) {
            if (c != cell && now.free(leaf, c) && (to == NONE || Math.abs(c - cell) < Math.abs(to - cell))) {
                to = c;
            }
        }
        if (who != NONE && to == NONE) {
            return refuse(2);
        }
        act();
        now.glosses.add(leaf + ":" + cell);
        if (who == NONE) {
            return 100;
        }
        now.beings.get(who).cell = to;
        return to;
    }

    private boolean canPass(int n) {
        return text != null && n >= 1 && n <= 100 && now.day + n <= 999;
    }

    int days(int n) {
        if (!canPass(n)) {
            return refuse(3);
        }
        act();
        int met = 0;
        for (int k = 0; k < n; k++) {
            met += pass(now, here());
        }
        return met;
    }

    private long draw(int m) {
        x = java.math.BigInteger.valueOf(1103515245L).multiply(java.math.BigInteger.valueOf(x))
                .add(java.math.BigInteger.valueOf(12345)).mod(java.math.BigInteger.ONE.shiftLeft(31)).longValue();
        return x / 64 % m;
    }

    int chance(int n) {
        if (!canPass(n)) {
            return refuse(3);
        }
        act();
        int thumbs = 0;
        for (int k = 0; k < n; k++) {
            if (draw(100) < text.thumb && !now.beings.isEmpty()) {
                Being b = now.beings.get((int) draw(now.beings.size()));
                b.purse /= 2;
                thumbs++;
            }
            pass(now, here());
        }
        return thumbs;
    }

    boolean undo() {
        if (acts.isEmpty()) {
            refuse(4);
            return false;
        }
        now = acts.removeLast();
        return true;
    }

    boolean seed(int seed) {
        if (seed < 0) {
            refuse(5);
            return false;
        }
        x = seed;
        return true;
    }

    long ask() {
        String all = take();
        if (text == null) {
            return MarginFolk.NOTHING;
        }
        Reader r = new Reader(all);
        r.parts.addAll(Arrays.asList("number", "leaf", "cell", "trade", "purse", "open", "met", "day", "meets"));
        String kind;
        Tree tree;
        try {
            kind = r.peekWord();
            if (!Arrays.asList("first", "last", "often", "total", "most", "least").contains(kind)) {
                throw new Fault(1, r.p);
            }
            r.p += kind.length();
            tree = Arrays.asList("first", "last", "often").contains(kind) ? r.test(0) : r.sum(0);
            r.blanks();
            if (r.p < all.length()) {
                throw new Fault(1, r.p);
            }
        } catch (Fault f) {
            fault = f.code;
            place = f.place;
            return MarginFolk.NOTHING;
        }
        fault = 0;
        place = NONE;
        List<Long> values = new ArrayList<>();
        for (int k = 0; k < now.beings.size(); k++) {
            values.add(tree.value(scene(now, k, here(), k)));
        }
        switch (kind) {
            case "first": return values.indexOf(1L);
            case "last": return values.lastIndexOf(1L);
            case "often": return values.stream().filter(v -> v == 1).count();
            case "total": return values.stream().mapToLong(v -> v).sum();
            case "most": return values.stream().mapToLong(v -> v).max().orElse(0);
            default: return values.stream().mapToLong(v -> v).min().orElse(0);
        }
    }

    int image() {
        List<Integer> all = new ArrayList<>(List.of(now.day >> 8, now.day & 255));
        for (int leaf = 0; leaf < leaves(); leaf++) {
            int bits = 0;
            for (int c = 0; c < text.cells; c++) {
                bits += now.glossed(leaf, c) ? 1 << c : 0;
            }
            all.add(bits);
        }
        for (Being b : now.beings) {
            all.addAll(List.of(b.leaf, b.cell, b.purse >> 8, b.purse & 255, b.met >> 8, b.met & 255));
        }
        picture = Check.sealed(all.stream().mapToInt(v -> v).toArray());
        return picture.length;
    }

    int octet(int k) {
        return k < 0 || k >= picture.length ? NONE : picture[k];
    }

    boolean on() {
        String all = take();
        World w = text == null ? null : world(all);
        if (w == null) {
            refuse(5);
            return false;
        }
        now = w;
        acts.clear();
        return true;
    }

    private World world(String all) {
        int[] bytes = all.chars().toArray();
        int beings = text.first.beings.size();
        if (bytes.length != 3 + text.leaves + 6 * beings
                || !Arrays.equals(bytes, Check.sealed(Arrays.copyOf(bytes, bytes.length - 1)))) {
            return null;
        }
        World w = new World();
        w.day = bytes[0] * 256 + bytes[1];
        boolean good = w.day <= 999;
        for (int leaf = 0; leaf < text.leaves; leaf++) {
            for (int c = 0; c < 8; c++) {
                if ((bytes[2 + leaf] >> c & 1) == 1) {
                    good = good && c < text.cells;
                    w.glosses.add(leaf + ":" + c);
                }
            }
        }
        for (int k = 0; k < beings; k++) {
            int from = 2 + text.leaves + 6 * k;
            Being b = text.first.beings.get(k).copy();
            b.leaf = bytes[from];
            b.cell = bytes[from + 1];
            b.purse = bytes[from + 2] * 256 + bytes[from + 3];
            b.met = bytes[from + 4] * 256 + bytes[from + 5];
            good = good && isCell(b.leaf, b.cell) && b.purse <= 9999 && b.met <= 9999 && w.free(b.leaf, b.cell);
            w.beings.add(b);
        }
        return good ? w : null;
    }

    int status(int what) {
        return what < 0 || what > 5 ? NONE : refused[what];
    }
}
