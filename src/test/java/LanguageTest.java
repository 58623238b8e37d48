import java.lang.reflect.Constructor;
import java.lang.reflect.Field;
import java.lang.reflect.Method;
import java.lang.reflect.Modifier;
import java.nio.file.Files;
import java.nio.file.Path;
import java.util.Arrays;
import java.util.HashSet;
import java.util.Map;
import java.util.Set;
import java.util.TreeMap;
import java.util.TreeSet;
import java.util.regex.Matcher;
import java.util.regex.Pattern;

/** The rules of ../shared/LANGUAGE.md that can be seen from outside, and the face of the class. */
public final class LanguageTest {
    private static final String[] FACE = {
        "int feed(int,int,int,int,int)", "boolean end(int)", "int folio()", "int fault(int)", "int has(int)", "int letter(int,int)",
        "int being(int,int)", "int cell(int,int,int)", "int kept(int,int)", "int meets(int,int)", "int pairs(int)", "int apart()",
        "int reading(int,int)", "int later(int,int,int)", "int opening(int)", "int way(int,int,int)", "int see()", "int lay(int)",
        "int after(int)", "int trim(int,int)", "boolean go(int,int,int)", "int gloss(int,int)", "int days(int)", "int chance(int)",
        "boolean undo()", "boolean seed(int)", "long ask()", "int image()", "int octet(int)", "boolean on()", "int status(int)"};
    private static final String[] FORBIDDEN = {
        "\\bthrow\\b", "\\btry\\b", "\\bcatch\\b", "\\bsynchronized\\b", "\\bassert\\b", "->", "::", "\\bimport\\b", "\\bprotected\\b",
        "\\bstatic\\s*\\{", "Exact\\b", "\\bRandom\\b", "\\bcurrentTimeMillis\\b", "\\bnanoTime\\b", "\\bhashCode\\b", "\\bequals\\b",
        "\\btoString\\b", "\\bThread\\b", "\\bstatic (?!final|int|boolean|void|long)"};

    private static int wrong = 0;

    public static void main(String[] args) throws Exception {
        face();
        inside();
        words();
        room();
        System.out.println(wrong + " rules broken");
        if (wrong != 0) {
            System.exit(1);
        }
    }

    private static void want(boolean good, String what) {
        if (!good) {
            wrong++;
            System.out.println("broken: " + what);
        }
    }

    private static String sign(Method method) {
        StringBuilder all = new StringBuilder(method.getReturnType() + " " + method.getName() + "(");
        for (Class<?> type : method.getParameterTypes()) {
            all.append(all.charAt(all.length() - 1) == '(' ? "" : ",").append(type);
        }
        return all + ")";
    }

    private static void face() {
        Set<String> due = new TreeSet<>(Arrays.asList(FACE));
        Set<String> got = new TreeSet<>();
        for (Method method : MarginFolk.class.getDeclaredMethods()) {
            if (!Modifier.isPrivate(method.getModifiers())) {
                want(Modifier.isPublic(method.getModifiers()), "1: " + method);
                got.add(sign(method));
            }
        }
        want(got.equals(due), "1: the face is " + got);
        want(Modifier.isFinal(MarginFolk.class.getModifiers()), "1: the class is final");
        Constructor<?>[] made = MarginFolk.class.getDeclaredConstructors();
        want(made.length == 1 && Modifier.isPublic(made[0].getModifiers()), "1: one public constructor");
        for (Field field : MarginFolk.class.getDeclaredFields()) {
            boolean constant = field.getName().equals("NONE") || field.getName().equals("NOTHING");
            want(constant ? Modifier.isPublic(field.getModifiers()) : Modifier.isPrivate(field.getModifiers()), "1: " + field);
        }
    }

    private static void inside() {
        Set<String> names = new HashSet<>();
        for (String sign : FACE) {
            names.add(sign.substring(sign.indexOf(' ') + 1, sign.indexOf('(')));
        }
        Class<?>[] inner = MarginFolk.class.getDeclaredClasses();
        want(inner.length + 1 <= 12, "11: twelve classes at most");
        for (Class<?> type : inner) {
            want(Modifier.isStatic(type.getModifiers()), "2: " + type);
            members(type, names);
        }
        members(MarginFolk.class, new HashSet<>());
        for (Method method : MarginFolk.class.getDeclaredMethods()) {
            want(Modifier.isPublic(method.getModifiers()) || !names.contains(method.getName()), "1: " + method);
        }
    }

    private static void members(Class<?> type, Set<String> taken) {
        int fields = 0;
        for (Field field : type.getDeclaredFields()) {
            boolean constant = Modifier.isStatic(field.getModifiers());
            want(!constant || Modifier.isFinal(field.getModifiers()), "5: " + field);
            fields += constant ? 0 : 1;
        }
        want(fields <= 20, "11: fields of " + type + ": " + fields);
        for (Method method : type.getDeclaredMethods()) {
            want(method.getParameterCount() <= 7, "11: " + method);
            want(!taken.contains(method.getName()), "1: " + method);
        }
    }

    private static void words() throws Exception {
        String source = Files.readString(Path.of("src/main/java/MarginFolk.java"));
        want(source.chars().allMatch(c -> c < 128), "3: signs of the file");
        String code = source.replaceAll("(?s)/\\*.*?\\*/", "").replaceAll("//[^\n]*", "").replaceAll("\"[^\"]*\"", "\"\"");
        for (String word : FORBIDDEN) {
            Matcher found = Pattern.compile(word).matcher(code);
            want(!found.find(), "3 to 6: " + word);
        }
        want(!Pattern.compile("\"\\s*\\+|\\+\\s*\"").matcher(code).find(), "10: texts joined by +");
        lengths(code);
        depths(code);
    }

    /** Calls by name, whatever class has it: those that reach one another are recursion and count once. */
    private static void depths(String code) {
        Map<String, Set<String>> calls = calls(code);
        boolean more = true;
        Map<String, Set<String>> reached = new TreeMap<>();
        calls.forEach((name, called) -> reached.put(name, new TreeSet<>(called)));
        while (more) {
            more = false;
            for (Set<String> all : reached.values()) {
                for (String name : new TreeSet<>(all)) {
                    more |= all.addAll(reached.get(name));
                }
            }
        }
        for (String name : calls.keySet()) {
            int deep = depth(name, calls, reached);
            want(deep <= 8, "11: " + name + " goes " + deep + " calls deep");
        }
        want(reached.get("readPart").contains("readSum") && reached.get("readSum").contains("readPart"), "the calls are not seen");
    }

    private static Map<String, Set<String>> calls(String code) {
        Map<String, Set<String>> calls = new TreeMap<>();
        String head = "\n {4,8}(?:(?:public|private|static|final) )*(?:[\\w\\[\\]]+ )?(\\w+)\\([^)]*\\) \\{";
        Matcher found = Pattern.compile(head).matcher(code);
        while (found.find()) {
            calls.putIfAbsent(found.group(1), new TreeSet<>());
        }
        found.reset();
        int from = -1;
        String name = "";
        while (found.find()) {
            add(calls, name, from < 0 ? "" : code.substring(from, found.start()));
            name = found.group(1);
            from = found.end();
        }
        add(calls, name, code.substring(from));
        return calls;
    }

    private static void add(Map<String, Set<String>> calls, String name, String body) {
        Matcher found = Pattern.compile("(\\w+)\\(").matcher(body);
        while (found.find()) {
            if (calls.containsKey(found.group(1))) {
                calls.get(name).add(found.group(1));
            }
        }
    }

    private static int depth(String name, Map<String, Set<String>> calls, Map<String, Set<String>> reached) {
        int most = 0;
        for (String inner : calls.keySet()) {
            boolean together = inner.equals(name) || reached.get(name).contains(inner) && reached.get(inner).contains(name);
            for (String next : together ? calls.get(inner) : Set.<String>of()) {
                if (!next.equals(name) && !reached.get(next).contains(name)) {
                    most = Math.max(most, depth(next, calls, reached));
                }
            }
        }
        return most + 1;
    }

    /** Methods begin at four or eight blanks and end with a brace at the same place. */
    private static void lengths(String code) {
        String[] lines = code.split("\n");
        for (String indent : new String[] {"    ", "        "}) {
            int from = -1;
            for (int k = 0; k < lines.length; k++) {
                boolean head = lines[k].startsWith(indent) && !lines[k].startsWith(indent + " ") && lines[k].endsWith(") {");
                from = head ? k : from;
                if (lines[k].equals(indent + "}") && from >= 0) {
                    want(k - from <= 60, "11: long: " + lines[from]);
                    from = -1;
                }
            }
        }
    }

    /** One object's own objects and elements, and that its calls make no more of them. */
    private static void room() throws Exception {
        long[] size = new long[2];
        measure(new MarginFolk(), java.util.Collections.newSetFromMap(new java.util.IdentityHashMap<>()), size);
        System.out.println("one object: " + size[0] + " objects, " + size[1] + " fields and elements");
        want(size[0] < 400, "12: objects " + size[0]);
        want(size[1] < 12000, "12: fields and elements " + size[1]);
        String code = Files.readString(Path.of("src/main/java/MarginFolk.java"));
        int made = 0;
        for (String line : code.split("\n")) {
            made += line.contains("new ") && !line.contains("final") && line.startsWith("            ") ? 1 : 0;
        }
        want(made == 3, "12: objects are made in constructors alone: " + made);
    }

    private static void measure(Object object, Set<Object> seen, long[] size) throws Exception {
        if (object == null || !seen.add(object)) {
            return;
        }
        size[0]++;
        if (object.getClass().isArray()) {
            int length = java.lang.reflect.Array.getLength(object);
            size[1] += length;
            for (int k = 0; k < length && !object.getClass().getComponentType().isPrimitive(); k++) {
                measure(java.lang.reflect.Array.get(object, k), seen, size);
            }
            return;
        }
        for (Field field : object.getClass().getDeclaredFields()) {
            if (!Modifier.isStatic(field.getModifiers())) {
                size[1]++;
                if (!field.getType().isPrimitive()) {
                    field.setAccessible(true);
                    measure(field.get(object), seen, size);
                }
            }
        }
    }
}
