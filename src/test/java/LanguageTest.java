import java.lang.reflect.Field;
import java.lang.reflect.Method;
import java.lang.reflect.Modifier;
import java.nio.file.Files;
import java.nio.file.Path;
import java.util.ArrayList;
import java.util.List;
import java.util.Map;
import java.util.Set;
import java.util.TreeMap;
import java.util.TreeSet;
import java.util.regex.Matcher;
import java.util.regex.Pattern;

/** The rules of LANGUAGE.md that can be seen from the source's words and from the class's members. */
public final class LanguageTest {
    private static final Due D = new Due();

    public static void main(String[] args) throws Exception {
        String source = Files.readString(Path.of("src/main/java/DayMarket.java"));
        String bare = source.replaceAll("(?s)/\\*.*?\\*/|//[^\\n]*", " ").replaceAll("\"[^\"]*\"|'[^']*'", "0");
        forbiddenWords(bare);
        libraryCalls(bare);
        face();
        classes();
        methods(bare);
        D.end();
    }

    private static void forbiddenWords(String bare) {
        String[] words = {"throw", "throws", "try", "catch", "finally", "synchronized", "assert", "import", "package", "hashCode",
            "toString", "equals", "Object", "Exception", "Error", "NaN", "var", "yield", "native", "volatile", "transient"};
        for (String word : words) {
            D.due("the word " + word, Pattern.compile("\\b" + word + "\\b").matcher(bare).find() ? 1 : 0, 0);
        }
        for (String sign : new String[] {"->", "::", "@", "static {"}) {
            D.due("the sign " + sign, bare.contains(sign) ? 1 : 0, 0);
        }
        D.due("signs are ASCII", bare.chars().allMatch(c -> c < 128) ? 1 : 0, 1);
    }

    private static void libraryCalls(String bare) {
        Matcher m = Pattern.compile("\\b(Math|Integer|Long|System|Arrays|Character|Float|Double|Short|Byte)\\.(\\w+)").matcher(bare);
        Set<String> allowed = Set.of("Math.max", "Math.min", "Math.abs", "Integer.bitCount", "System.arraycopy");
        while (m.find()) {
            D.due("call of " + m.group(), allowed.contains(m.group()) ? 1 : 0, 1);
        }
    }

    private static void face() throws Exception {
        String doc = Files.readString(Path.of("../shared/DOC.md"));
        String face = doc.substring(doc.indexOf("```java"), doc.indexOf("```\n", doc.indexOf("```java") + 7));
        Set<String> due = new TreeSet<>();
        Matcher m = Pattern.compile("public int (\\w+)\\(([^)]*)\\);").matcher(face);
        while (m.find()) {
            due.add(m.group(1) + " " + (m.group(2).isEmpty() ? 0 : m.group(2).split(",").length));
        }
        Set<String> got = new TreeSet<>();
        Set<String> names = new TreeSet<>();
        for (Method method : DayMarket.class.getDeclaredMethods()) {
            if (Modifier.isPublic(method.getModifiers())) {
                got.add(method.getName() + " " + method.getParameterCount());
                names.add(method.getName());
                D.due("int is what " + method.getName() + " answers", method.getReturnType() == int.class ? 1 : 0, 1);
            } else {
                D.due("private: " + method.getName(), Modifier.isPrivate(method.getModifiers()) ? 1 : 0, 1);
            }
        }
        D.due("the face: " + got, got.equals(due) ? 1 : 0, 1);
        D.due("44 promises, one for the constructor", due.size(), 43);
        for (Class<?> inner : DayMarket.class.getDeclaredClasses()) {
            for (Method method : inner.getDeclaredMethods()) {
                D.due("a name of its own: " + method.getName(), names.contains(method.getName()) ? 1 : 0, 0);
            }
        }
        for (Method method : DayMarket.class.getDeclaredMethods()) {
            D.due("no private one is named like a public one: " + method.getName(),
                !Modifier.isPublic(method.getModifiers()) && names.contains(method.getName()) ? 1 : 0, 0);
        }
        m = Pattern.compile("([A-Z]+) = (-\\d+)").matcher(face);
        Set<String> constants = new TreeSet<>();
        while (m.find()) {
            constants.add(m.group(1));
            D.due(m.group(1), DayMarket.class.getField(m.group(1)).getInt(null), Integer.parseInt(m.group(2)));
        }
        for (Field field : DayMarket.class.getDeclaredFields()) {
            boolean told = constants.contains(field.getName());
            D.due("public or private: " + field.getName(), told ? Modifier.isPublic(field.getModifiers()) ? 1 : 0
                : Modifier.isPrivate(field.getModifiers()) ? 1 : 0, 1);
        }
    }

    private static void classes() {
        D.due("public and final", DayMarket.class.getModifiers(), Modifier.PUBLIC | Modifier.FINAL);
        D.due("one constructor", DayMarket.class.getDeclaredConstructors().length, 1);
        D.due("at most twelve classes", DayMarket.class.getDeclaredClasses().length <= 11 ? 1 : 0, 1);
        fields(DayMarket.class);
        for (Class<?> inner : DayMarket.class.getDeclaredClasses()) {
            D.due("static: " + inner.getName(), Modifier.isStatic(inner.getModifiers()) ? 1 : 0, 1);
            fields(inner);
        }
    }

    private static void fields(Class<?> type) {
        int own = 0;
        for (Field field : type.getDeclaredFields()) {
            if (Modifier.isStatic(field.getModifiers())) {
                D.due("a static field is final: " + field.getName(), Modifier.isFinal(field.getModifiers()) ? 1 : 0, 1);
            } else {
                own++;
            }
        }
        D.due("at most twenty fields: " + type.getName(), own <= 20 ? 1 : 0, 1);
    }

    private static void methods(String bare) {
        Map<String, String> bodies = new TreeMap<>();
        Matcher m = Pattern.compile("(?m)^( +)(?:[\\w\\[\\]]+ )*(\\w+)\\(([^()]*)\\) \\{\\R(?s:(.*?))^\\1\\}").matcher(bare);
        int at = 0;
        while (m.find(at)) {
            at = m.end(3);
            if (m.group(2).matches("if|for|while|switch")) {
                continue;
            }
            D.due("at most sixty lines: " + m.group(2), m.group(4).lines().count() <= 60 ? 1 : 0, 1);
            D.due("at most seven numbers: " + m.group(2), m.group(3).split(",").length <= 7 ? 1 : 0, 1);
            bodies.merge(m.group(2), m.group(4), String::concat);
        }
        for (Method method : DayMarket.class.getDeclaredMethods()) {
            D.due("its lines were found: " + method.getName(), bodies.containsKey(method.getName()) ? 1 : 0, 1);
            int deep = depth(method.getName(), bodies, new ArrayList<>());
            D.due("at most eight deep: " + method.getName() + " " + deep, deep <= 8 ? 1 : 0, 1);
        }
    }

    /** How many calls stand open at most, of those that call one another each once. */
    private static int depth(String name, Map<String, String> bodies, List<String> open) {
        open.add(name);
        int most = 0;
        Set<String> called = new TreeSet<>();
        Matcher m = Pattern.compile("\\b(\\w+)\\(").matcher(bodies.get(name));
        while (m.find()) {
            called.add(m.group(1));
        }
        for (String other : called) {
            if (bodies.containsKey(other) && !open.contains(other)) {
                most = Math.max(most, depth(other, bodies, open));
            }
        }
        open.remove(name);
        return 1 + most;
    }
}
