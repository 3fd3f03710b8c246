import java.nio.file.Files;
import java.nio.file.Path;
import java.util.List;
import java.util.stream.Collectors;
import java.util.stream.Stream;

/** What README.md says is so: its calls answer what it tells, and its table names every test. */
public final class ReadmeTest {
    private static final Due D = new Due();

    public static void main(String[] args) throws Exception {
        example();
        String readme = Files.readString(Path.of("README.md"));
        String self = Files.readString(Path.of("src/test/java/ReadmeTest.java"));
        for (String block : readme.split("```java\n")) {
            if (block.contains("market.")) {
                block.substring(0, block.indexOf("```")).lines().forEach(line -> stands(self, line));
            }
        }
        everyTest(readme);
        D.due(".ci/run can be run", Files.isExecutable(Path.of(".ci/run")) ? 1 : 0, 1);
        D.end();
    }

    /** The lines of README.md stand here as they stand there, so that the compiler reads them, too. */
    private static void example() {
        DayMarket market = new DayMarket();
        int day = market.day(1, 7, 3, 0);   // a MENDED day, DATE 7, TONE 3, of person 0: its number, 0
        D.due("day", day, 0);
        D.due("MENDED", market.told(day, 0), 1);
        D.due("offer", market.offer(3, day), 50);
        market.offer(3, day);               // what person 3 offers for it: 50
        market.markets(5);                  // five markets: how many sales there were
        D.due("markets", market.count(1), 5);
        market.behind(day, 10, 0);          // whose it will be behind ten more; nothing changes
        D.due("behind", market.count(1), 5);
        D.due("markets are as they were thought", market.behind(day, 10, 0), behindTen(market, day));
        market.feed(0x66696e65, 0x20632b6e, 0x2a313020); // "fine c+n*10 "
        D.due("text", market.text(), 0);
        D.due("fine", market.fine(1), market.one(1, 0) + 10 * Integer.bitCount(market.one(1, 2)));
        market.text();                                   // its number, or -100 less the place of its fault
        D.due("no TEXT on the tape", market.text(), -100);
    }

    private static int behindTen(DayMarket market, int day) {
        market.keep();
        market.markets(10);
        int owner = market.told(day, 4);
        market.back();
        return owner;
    }

    private static void stands(String self, String line) {
        D.due("stands in this test: " + line, self.contains(line.strip()) ? 1 : 0, 1);
    }

    private static void everyTest(String readme) throws Exception {
        try (Stream<Path> files = Files.list(Path.of("src/test/java"))) {
            List<String> names = files.map(f -> f.getFileName().toString().replace(".java", ""))
                .filter(n -> n.endsWith("Test")).sorted().collect(Collectors.toList());
            List<String> told = readme.lines().filter(l -> l.matches("\\| \\w+Test \\|.*"))
                .map(l -> l.split(" ")[1]).sorted().collect(Collectors.toList());
            D.due("the tests are " + names + ", told are " + told, names.equals(told) ? 1 : 0, 1);
        }
    }
}
