import java.lang.reflect.Constructor;
import java.lang.reflect.Field;
import java.lang.reflect.Method;
import java.lang.reflect.Modifier;
import java.nio.file.Files;
import java.nio.file.Path;
import java.util.Set;
import java.util.TreeSet;
import java.util.regex.Matcher;
import java.util.regex.Pattern;

/** 'The public face' as ../shared/DOC.md tells it: these members, and no other one that can be seen from outside. */
public final class FaceTest {
    private static final Pattern FACE = Pattern.compile("(?s)## The public face\\s+```java\n(.*?)```");

    public static void main(String[] args) throws Exception {
        Matcher found = FACE.matcher(Files.readString(Path.of("../shared/DOC.md")));
        Set<String> due = found.find() ? told(found.group(1)) : new TreeSet<>();
        Set<String> got = seen();
        Check run = new Check("the public face");
        run.due("members told", due.size(), 1 + 2 + 1 + 31);
        for (String member : due) {
            run.due("has " + member, got.contains(member), true);
        }
        for (String member : got) {
            run.due("may have " + member, due.contains(member), true);
        }
        run.due("extends nothing", MarginFolk.class.getSuperclass() == Object.class, true);
        run.due("interfaces", MarginFolk.class.getInterfaces().length, 0);
        Check.finish();
    }

    /** The lines of the document, without the names of parameters. */
    private static Set<String> told(String face) {
        Set<String> all = new TreeSet<>();
        for (String line : face.split("\n")) {
            String member = line.trim().replaceAll(" [a-z]+(?=[,)])", "").replaceAll("(?<=\\d)L;", ";").replaceAll("[;{]$", "").trim();
            if (!member.equals("}")) {
                all.add(member);
            }
        }
        return all;
    }

    private static Set<String> seen() throws Exception {
        Set<String> all = new TreeSet<>();
        all.add(Modifier.toString(MarginFolk.class.getModifiers()) + " class MarginFolk");
        for (Field field : MarginFolk.class.getDeclaredFields()) {
            if (!Modifier.isPrivate(field.getModifiers())) {
                all.add(Modifier.toString(field.getModifiers()) + " " + field.getType() + " " + field.getName() + " = " + field.get(null));
            }
        }
        for (Constructor<?> made : MarginFolk.class.getDeclaredConstructors()) {
            if (!Modifier.isPrivate(made.getModifiers())) {
                all.add(Modifier.toString(made.getModifiers()) + " MarginFolk" + types(made.getParameterTypes()));
            }
        }
        for (Method method : MarginFolk.class.getDeclaredMethods()) {
            if (!Modifier.isPrivate(method.getModifiers())) {
                String head = Modifier.toString(method.getModifiers()) + " " + method.getReturnType() + " " + method.getName();
                all.add(head + types(method.getParameterTypes()));
            }
        }
        for (Class<?> inner : MarginFolk.class.getDeclaredClasses()) {
            if (Modifier.isPublic(inner.getModifiers()) || Modifier.isProtected(inner.getModifiers())) {
                all.add(inner.toString());
            }
        }
        return all;
    }

    private static String types(Class<?>[] types) {
        StringBuilder all = new StringBuilder("(");
        for (int k = 0; k < types.length; k++) {
            all.append(k == 0 ? "" : ", ").append(types[k]);
        }
        return all + ")";
    }
}
