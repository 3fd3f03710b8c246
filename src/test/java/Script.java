import java.io.IOException;
import java.nio.file.Files;
import java.nio.file.Path;
import java.util.ArrayList;
import java.util.Arrays;
import java.util.List;
import java.util.Map;
import java.util.regex.Matcher;
import java.util.regex.Pattern;

/** The cases of a file under src/test/sentences; README.md tells how its lines are read. */
final class Script {
    /** One call with its numbers. */
    record Call(String name, int... numbers) {
        @Override public String toString() {
            String row = Arrays.toString(numbers);
            return name + "(" + row.substring(1, row.length() - 1) + ")";
        }
    }

    /** What may change behind a line: all, nothing, the tape that is used up, the numbers that wait no more. */
    enum Mark { ALL, NOTHING, TAPE, WAITS }

    /** Calls of which the last one's answer is due, if due is told; or a new object, if there are no calls. */
    record Line(String where, Mark mark, List<Call> calls, Integer due) { }

    record Case(String section, String where, List<String> quotes, List<Line> lines) { }

    private static final Pattern LIST = Pattern.compile("\\{([^}]*)\\}");

    final List<Case> cases = new ArrayList<>();
    /** What "use" names; a file may use what stands in one ahead of it. */
    private final Map<String, List<String>> settings;
    private String section = "";
    private String where = "";

    Script(Path path, Map<String, List<String>> settings) throws IOException {
        this.settings = settings;
        int number = 0;
        boolean quoting = false;
        List<String> setting = null;
        for (String row : Files.readAllLines(path)) {
            number++;
            where = path.getFileName() + ":" + number;
            String line = row.strip();
            if (line.isEmpty() || line.startsWith("#")) {
                continue;
            }
            if (line.startsWith("== ")) {
                section = line.substring(3);
                setting = null;
            } else if (line.startsWith("set up ")) {
                setting = new ArrayList<>();
                settings.put(line.substring(7), setting);
            } else if (setting != null && !line.startsWith("> ")) {
                setting.add(line);
            } else if (line.startsWith("> ")) {
                setting = null;
                addQuote(line.substring(2), quoting);
            } else {
                addLine(line);
            }
            quoting = line.startsWith("> ");
        }
    }

    private void addQuote(String quote, boolean more) {
        if (!more) {
            cases.add(new Case(section, where, new ArrayList<>(), new ArrayList<>()));
        }
        cases.get(cases.size() - 1).quotes().add(quote);
    }

    private void addLine(String line) {
        if (cases.isEmpty()) {
            throw new IllegalStateException(where + ": no sentence above");
        }
        if (line.startsWith("use ")) {
            List<String> rows = settings.get(line.substring(4));
            if (rows == null) {
                throw new IllegalStateException(where + ": no " + line);
            }
            rows.forEach(this::addLine);
            return;
        }
        List<Line> lines = cases.get(cases.size() - 1).lines();
        if (line.equals("new")) {
            lines.add(new Line(where, Mark.ALL, List.of(), null));
            return;
        }
        Mark mark = Mark.ALL;
        for (Mark m : new Mark[] {Mark.TAPE, Mark.WAITS, Mark.NOTHING}) {
            String sign = m == Mark.NOTHING ? "! " : "!" + m.name().toLowerCase() + " ";
            if (line.startsWith(sign)) {
                mark = m;
                line = line.substring(sign.length());
                break;
            }
        }
        addCalls(mark, line.strip());
    }

    private void addCalls(Mark mark, String line) {
        int at = line.lastIndexOf(" = ");
        String call = at < 0 ? line : line.substring(0, at);
        List<String> dues = at < 0 ? List.of("") : spread(line.substring(at + 3));
        int many = 1;
        Matcher m = Pattern.compile("(\\d+) \\* (.*)").matcher(call);
        if (m.matches()) {
            many = Integer.parseInt(m.group(1));
            call = m.group(2);
        }
        List<String> calls = spread(call);
        if (dues.size() != 1 && dues.size() != calls.size()) {
            throw new IllegalStateException(where + ": " + calls.size() + " calls, " + dues.size() + " answers");
        }
        for (int i = 0; i < calls.size(); i++) {
            String due = dues.get(dues.size() == 1 ? 0 : i);
            for (int k = 0; k < many; k++) {
                cases.get(cases.size() - 1).lines().add(
                    new Line(where, mark, callsOf(calls.get(i).strip()), due.isEmpty() ? null : number(due)));
            }
        }
    }

    /** One row for each number of a list, the last list's changing fastest; a text in quotes is left as it is. */
    private static List<String> spread(String s) {
        Matcher m = LIST.matcher(s);
        if (s.contains("\"") || !m.find()) {
            return List.of(s);
        }
        List<String> all = new ArrayList<>();
        for (String part : m.group(1).split(",")) {
            String[] ends = part.strip().split("\\.\\.");
            int from = number(ends[0]);
            for (long v = from; v <= number(ends[ends.length - 1]); v++) {
                all.addAll(spread(s.substring(0, m.start()) + v + s.substring(m.end())));
            }
        }
        return all;
    }

    private List<Call> callsOf(String s) {
        List<Call> calls = new ArrayList<>();
        Matcher m = Pattern.compile("(text|tape|works) \"(.*)\"").matcher(s);
        if (m.matches()) {
            boolean works = m.group(1).equals("works");
            String tape = bytes((works ? "fine " : "") + m.group(2));
            if (works) {
                calls.add(new Call("back"));
            }
            for (int at = 0; at < tape.length(); at += 12) {
                calls.add(new Call("feed", Due.number(tape, at), Due.number(tape, at + 4), Due.number(tape, at + 8)));
            }
            calls.add(new Call("trim", tape.length()));
            if (!m.group(1).equals("tape")) {
                calls.add(new Call("text"));
            }
            if (works) {
                calls.add(new Call("fine", 1));
            }
            return calls;
        }
        String[] words = s.split(" +");
        int[] numbers = new int[words.length - 1];
        for (int i = 1; i < words.length; i++) {
            numbers[i - 1] = number(words[i]);
        }
        calls.add(new Call(words[0], numbers));
        return calls;
    }

    /** In a text, \233 is the byte of that number, and (8 times !) is eight of that sign. */
    private static String bytes(String s) {
        Matcher m = Pattern.compile("\\((\\d+) times ([^)]+|\\))\\)").matcher(s);
        String all = m.replaceAll(r -> Matcher.quoteReplacement(r.group(2).repeat(Integer.parseInt(r.group(1)))));
        return Pattern.compile("\\\\(\\d+)").matcher(all)
            .replaceAll(r -> Matcher.quoteReplacement("" + (char) Integer.parseInt(r.group(1))));
    }

    private static int number(String word) {
        switch (word.strip()) {
            case "BAD": return DayMarket.BAD;
            case "NO": return DayMarket.NO;
            case "FULL": return DayMarket.FULL;
            case "NONE": return DayMarket.NONE;
            case "NOTHING": return DayMarket.NOTHING;
            case "KIND": return DayMarket.KIND;
            case "INDEX": return DayMarket.INDEX;
            case "SIZE": return DayMarket.SIZE;
            case "MIN": return Integer.MIN_VALUE;
            case "MAX": return Integer.MAX_VALUE;
            default: return Integer.parseInt(word.strip());
        }
    }
}
