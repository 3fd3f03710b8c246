import java.io.IOException;
import java.nio.file.Files;
import java.nio.file.Path;
import java.util.ArrayList;
import java.util.HashMap;
import java.util.List;
import java.util.Map;
import java.util.stream.Stream;

/**
 * The cases under src/test/sentences, each below the words of the document that it holds: every answer is held against
 * the one that is due, the Model's too; a refused call must leave all as on an object without it; and no word of the
 * document's terms and promises may be without a case.
 */
public final class SentencesTest {
    private static final Due D = new Due();

    public static void main(String[] args) throws IOException {
        List<Script.Case> cases = new ArrayList<>();
        Map<String, List<String>> settings = new HashMap<>();
        try (Stream<Path> files = Files.list(Path.of("src/test/sentences"))) {
            for (Path file : files.sorted().toList()) {
                cases.addAll(new Script(file, settings).cases);
            }
        }
        cases.forEach(SentencesTest::run);
        everyWord(Files.readString(Path.of("../shared/DOC.md")), cases);
        D.end();
    }

    private static void run(Script.Case c) {
        D.due(c.where() + ": a sentence has answers that are due", c.lines().stream().anyMatch(l -> l.due() != null) ? 1 : 0, 1);
        List<Script.Call> history = new ArrayList<>();
        Subject x = new Subject(new DayMarket());
        Subject model = new Subject(new Model());
        for (Script.Line line : c.lines()) {
            if (line.calls().isEmpty()) {
                history.clear();
                x = new Subject(new DayMarket());
                model = new Subject(new Model());
                continue;
            }
            int got = 0;
            int other = 0;
            for (Script.Call call : line.calls()) {
                got = x.answer(call);
                other = model.answer(call);
            }
            Script.Call last = line.calls().get(line.calls().size() - 1);
            if (line.due() != null) {
                D.due(line.where() + ": " + last, got, line.due());
                D.due(line.where() + ": the Model's " + last, other, line.due());
            }
            if (line.mark() != Script.Mark.ALL) {
                nothingChanges(line, history);
            }
            history.addAll(line.calls());
        }
    }

    private static void nothingChanges(Script.Line line, List<Script.Call> history) {
        List<Script.Call> with = new ArrayList<>(history);
        with.addAll(line.calls());
        List<Script.Call> without = new ArrayList<>(history);
        if (line.mark() == Script.Mark.TAPE) {
            without.add(new Script.Call("trim", 0));
        } else if (line.mark() == Script.Mark.WAITS) {
            without.removeIf(call -> call.name().equals("tell"));
        }
        same(line, Subject.behind(with).whatIsNow(), Subject.behind(without).whatIsNow());
        same(line, Subject.behind(with).whatIsKept(), Subject.behind(without).whatIsKept());
    }

    private static void same(Script.Line line, List<String> got, List<String> want) {
        int at = 0;
        while (at < got.size() && at < want.size() && got.get(at).equals(want.get(at))) {
            at++;
        }
        String change = at < got.size() ? got.get(at) : "";
        D.due(line.where() + ": " + line.calls() + " changes something: " + change, got.equals(want) ? 1 : 0, 1);
    }

    private static void everyWord(String doc, List<Script.Case> cases) {
        Sentences sentences = new Sentences(doc);
        D.due("the terms, their five parts, 44 promises", sentences.sections().size(), 6 + 44);
        for (Script.Case c : cases) {
            for (String quote : c.quotes()) {
                D.due(c.where() + ": stands in " + c.section() + ": " + quote, sentences.quote(c.section(), quote) ? 1 : 0, 1);
            }
        }
        for (String section : sentences.sections()) {
            String left = sentences.unquoted(section);
            D.due(section + " has words without a case: " + left, left.isEmpty() ? 1 : 0, 1);
        }
    }
}
