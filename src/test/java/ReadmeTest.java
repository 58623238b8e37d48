import java.net.URL;
import java.net.URLClassLoader;
import java.nio.file.Files;
import java.nio.file.Path;
import java.util.ArrayList;
import java.util.HashMap;
import java.util.List;
import java.util.Map;
import java.util.function.LongSupplier;
import java.util.regex.Matcher;
import java.util.regex.Pattern;
import javax.tools.JavaCompiler;
import javax.tools.ToolProvider;

/** What README.md tells: its example gives the answers that stand beside the calls, its table the refusals. */
public final class ReadmeTest {
    private static final Pattern BLOCK = Pattern.compile("(?s)```java\n(.*?)```");
    private static final Pattern ANSWERED = Pattern.compile("\\s*(folk\\.\\w+\\(.*\\));\\s*// (\\w+).*");
    private static final Pattern ROW = Pattern.compile("\\| (\\d) \\| (`.*?) \\| (.*?) \\|");

    public static void main(String[] args) throws Exception {
        String readme = Files.readString(Path.of("README.md"));
        example(readme);
        refusals(readme);
        Check.finish();
    }

    private static void example(String readme) throws Exception {
        List<String> blocks = new ArrayList<>();
        Matcher found = BLOCK.matcher(readme);
        while (found.find()) {
            blocks.add(found.group(1));
        }
        Check run = new Check("README.md");
        run.due("blocks of Java: the tape, the example", blocks.size(), 2);
        List<String[]> answers = answersOf(program(blocks.get(0), blocks.get(1)));
        run.due("the example has answers", answers.size() > 20, true);
        for (String[] answer : answers) {
            boolean same = answer[1].equals(answer[2]);
            run.due(answer[0] + " told as " + answer[2] + ", answered " + answer[1] + ": same", same, true);
        }
    }

    /** The example as a class, in which each call with an answer beside it adds a row: call, got, told. */
    private static String program(String helpers, String example) {
        StringBuilder all = new StringBuilder("public class ReadmeExample {\n" + helpers);
        all.append("public static void play(java.util.List<String[]> rows) {\n");
        for (String line : example.split("\n")) {
            Matcher answered = ANSWERED.matcher(line);
            if (!answered.matches()) {
                all.append(line).append('\n');
                continue;
            }
            String told = answered.group(2);
            String value = told.equals("NONE") || told.equals("NOTHING") ? "MarginFolk." + told : told;
            all.append(String.format("rows.add(new String[] {\"%s\", \"\" + %s, \"\" + %s});%n", answered.group(1), answered.group(1), value));
        }
        return all + "}\n}\n";
    }

    private static List<String[]> answersOf(String program) throws Exception {
        Path home = Files.createTempDirectory("readme");
        Path source = home.resolve("ReadmeExample.java");
        List<String[]> rows = new ArrayList<>();
        Files.writeString(source, program);
        JavaCompiler compiler = ToolProvider.getSystemJavaCompiler();
        int code = compiler.run(null, null, null, "-cp", System.getProperty("java.class.path"), "-d", home.toString(), source.toString());
        if (code == 0) {
            try (URLClassLoader loader = new URLClassLoader(new URL[] {home.toUri().toURL()})) {
                loader.loadClass("ReadmeExample").getMethod("play", List.class).invoke(null, rows);
            }
        }
        Files.deleteIfExists(home.resolve("ReadmeExample.class"));
        Files.delete(source);
        Files.delete(home);
        return rows;
    }

    /** Each call of the table, refused on a new object. */
    private static void refusals(String readme) {
        int calls = 0;
        Matcher row = ROW.matcher(readme);
        while (row.find()) {
            int kind = Integer.parseInt(row.group(1));
            String[] names = row.group(2).replace("`", "").split(", ");
            String[] told = row.group(3).replace("`", "").split(", ");
            for (int k = 0; k < names.length && refused(new Check("")).containsKey(names[0]); k++) {
                Check run = new Check("README.md, refused");
                long want = told[k].equals("false") ? 0 : MarginFolk.NONE;
                run.refused(names[k], kind, refused(run).get(names[k]), want);
                calls++;
            }
        }
        new Check("README.md").due("calls that can be refused", calls, 11);
    }

    private static Map<String, LongSupplier> refused(Check run) {
        Map<String, LongSupplier> all = new HashMap<>();
        all.put("feed", () -> {
            int last = 0;
            for (int k = 0; k <= 80; k++) {
                last = run.folk.feed(0, 0, 0, 0, 0);
            }
            return last;
        });
        all.put("end", () -> run.folk.end(-1) ? 1 : 0);
        all.put("folio", run.folk::folio);
        all.put("see", run.folk::see);
        all.put("go", () -> run.folk.go(0, 0, 0) ? 1 : 0);
        all.put("gloss", () -> run.folk.gloss(0, 0));
        all.put("days", () -> run.folk.days(1));
        all.put("chance", () -> run.folk.chance(1));
        all.put("undo", () -> run.folk.undo() ? 1 : 0);
        all.put("seed", () -> run.folk.seed(-1) ? 1 : 0);
        all.put("on", () -> run.folk.on() ? 1 : 0);
        return all;
    }
}
