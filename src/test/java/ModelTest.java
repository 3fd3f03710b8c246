import java.lang.reflect.Method;
import java.util.ArrayList;
import java.util.Arrays;
import java.util.List;
import java.util.Random;

/** Runs of 512 random calls, on a DayMarket and on the Model: every answer is held against the other's. */
public final class ModelTest {
    private static final Due D = new Due();
    /** Each call with the ranges of its numbers; a little beyond them comes too. */
    private static final String[] CALLS = {
        "day 0 5 0 99 0 9 0 5", "day 0 5 3 5 2 4 0 5", "told 0 9 0 7", "as 0 9 0 5", "turns 0 9 0 5", "set 0 9 1 3 0 99", "set 0 9 1 3 0 9",
        "one 0 5 0 2", "gives 0 5 0 0 0 9999", "gives 0 5 0 0 0 200", "gives 0 5 1 1 0 9", "offer 0 5 0 9", "deal 1 10", "seed * *",
        "sale 0 9 0 5 0 100", "sale 0 9 0 5 0 9999", "markets 1 100", "markets 1 9", "ledger 0 2", "isTrue 0 99", "isTrue 3 5", "falseMany",
        "fill 0 5 0 2", "emptied 0 5", "behind 0 9 0 100 0 4", "behind 0 9 0 9 0 4", "richest 0 100 0 1", "worn", "dye 0 9 1 60 0 1", "dye 0 9 1 9 0 1",
        "mends 1 60 0 1", "mends 1 9 0 1", "toldBy 0 3 0 1", "fine 0 5", "feed * * * * * *", "trim 0 96", "text", "textTold 0 13 0 1", "why 0 2",
        "sheet 0 3 -1 1 0 24", "sheet 0 3 0 1 0 24", "mark 0 3 0 23 -99999 99999", "mark 0 3 0 23 0 99", "mark 0 3 0 23 -1000000005 -1000000005",
        "pour 0 3", "reads 0 3", "copy 0 3 0 24 0 3 0 24 0 24", "copy 0 3 0 4 0 3 0 4 0 4", "lay 0 4 0 3 0 9", "lay 0 4 3 3 * *", "ask 0 4 0 5",
        "item 0 4 0 23", "rest 0 4 * *", "rest 0 4 -9 9", "tell 0 30", "check 1 30", "check 1 2", "keep", "back", "count 0 7"};

    private static final int MOST_CALLS = 512;
    /** Bounds of the document and of the machine, and what stands right beside them. */
    private static final int[] EDGES = {Integer.MIN_VALUE, Integer.MIN_VALUE + 1, DayMarket.NONE, -100000, -99999, -32769, -32768, -2, -1, 0, 1, 2, 3, 4,
        5, 6, 9, 10, 11, 13, 14, 23, 24, 25, 30, 31, 60, 61, 95, 96, 97, 99, 100, 101, 9999, 10000, 32767, 32768, 65535, 65536, 99999, 100000,
        Integer.MAX_VALUE - 1, Integer.MAX_VALUE};

    private final Random lot;
    private final DayMarket x = new DayMarket();
    private final Model model = new Model();
    private int calls = 0;

    private ModelTest(long seed) {
        lot = new Random(seed);
    }

    public static void main(String[] args) throws Exception {
        int runs = args.length > 0 ? Integer.parseInt(args[0]) : 60;
        int from = args.length > 1 ? Integer.parseInt(args[1]) : 1;
        for (int seed = from; seed < from + runs; seed++) {
            new ModelTest(seed).run(seed);
        }
        D.end();
    }

    private void run(long seed) throws Exception {
        while (calls < MOST_CALLS) {
            int kind = lot.nextInt(100);
            if (kind < 12) {
                tellText(seed);
            } else if (kind < 14 && seed % 3 != 0) {
                tellRows(seed);
            } else {
                ask(seed, CALLS[lot.nextInt(CALLS.length)].split(" "));
            }
        }
    }

    private int number(String least, String most) {
        if (least.equals("*")) {
            return lot.nextInt(3) == 0 ? EDGES[lot.nextInt(EDGES.length)] : lot.nextInt();
        }
        int from = Integer.parseInt(least);
        int to = Integer.parseInt(most);
        int luck = lot.nextInt(60);
        if (luck == 0) {
            return from - 1;
        }
        if (luck == 1) {
            return to + 1;
        }
        if (luck == 2) {
            return lot.nextInt();
        }
        if (luck == 3) {
            return EDGES[lot.nextInt(EDGES.length)];
        }
        return from + lot.nextInt(to - from + 1);
    }

    private int ask(long seed, String[] words) throws Exception {
        int[] numbers = new int[words.length / 2];
        for (int i = 0; i < numbers.length; i++) {
            numbers[i] = number(words[1 + 2 * i], words[2 + 2 * i]);
        }
        return call(seed, words[0], numbers);
    }

    /** Behind the last call that the document tells of, nothing is asked. */
    private int call(long seed, String name, int... numbers) throws Exception {
        if (calls == MOST_CALLS) {
            return DayMarket.BAD;
        }
        Class<?>[] types = new Class<?>[numbers.length];
        Object[] given = new Object[numbers.length];
        for (int i = 0; i < numbers.length; i++) {
            types[i] = int.class;
            given[i] = numbers[i];
        }
        Method mine = DayMarket.class.getMethod(name, types);
        Method other = Model.class.getMethod(name, types);
        other.setAccessible(true);
        calls++;
        int want = (Integer) other.invoke(model, given);
        int got = (Integer) mine.invoke(x, given);
        D.due("run " + seed + ", call " + calls + ": " + name + Arrays.toString(numbers), got, want);
        return want;
    }

    private void tellText(long seed) throws Exception {
        String key = List.of("price", "wear", "fine").get(lot.nextInt(3));
        String names = key.equals("price") ? "twd" : key.equals("wear") ? "xtw" : "cn";
        StringBuilder s = new StringBuilder(blanks()).append(key).append(' ');
        addE(s, names, 1 + lot.nextInt(4));
        s.append(blanks());
        spoil(s);
        String text = s.length() > 96 ? s.substring(0, 96) : s.toString();
        call(seed, "trim", 0);
        for (int at = 0; at < text.length(); at += 12) {
            call(seed, "feed", Due.number(text, at), Due.number(text, at + 4), Due.number(text, at + 8));
        }
        call(seed, "trim", text.length());
        int answer = call(seed, "text");
        if (answer >= 0) {
            call(seed, "textTold", answer, 1);
            call(seed, "fine", lot.nextInt(6));
            call(seed, "count", 3);
        }
    }

    private String blanks() {
        return " ".repeat(Math.max(0, lot.nextInt(8) - 5));
    }

    private void addE(StringBuilder s, String names, int size) {
        for (int i = 0; i < size; i++) {
            if (i > 0) {
                s.append(blanks()).append("+-*/<=>&|+-*".charAt(lot.nextInt(12))).append(blanks());
            }
            int sort = lot.nextInt(12);
            if (sort < 3) {
                s.append("!".repeat(lot.nextInt(40) == 0 ? 7 + lot.nextInt(3) : 1));
            }
            if (sort == 2 || sort == 3) {
                int deep = lot.nextInt(20) == 0 ? 7 + lot.nextInt(3) : 1;
                s.append("(".repeat(deep));
                addE(s, names, 1 + lot.nextInt(3));
                s.append(")".repeat(deep));
            } else if (sort < 7) {
                s.append(lot.nextInt(4) == 0 ? lot.nextInt(12000) : lot.nextInt(12));
            } else {
                s.append(names.charAt(lot.nextInt(names.length())));
            }
        }
    }

    private void spoil(StringBuilder s) {
        int sort = lot.nextInt(6);
        int at = lot.nextInt(s.length());
        String signs = "!()+-*/<=>&|twdxcn019 a%P" + (char) 200 + (char) 0;
        if (sort == 0) {
            s.deleteCharAt(at);
        } else if (sort == 1) {
            s.insert(at, signs.charAt(lot.nextInt(signs.length())));
        } else if (sort == 2) {
            s.setCharAt(at, signs.charAt(lot.nextInt(signs.length())));
        }
    }

    /** Rows that are right, but for some last ones now and then. */
    private void tellRows(long seed) throws Exception {
        int n = 1 + lot.nextInt(6);
        call(seed, "keep");
        call(seed, "check", 1);
        List<Integer> rows = new ArrayList<>();
        for (int i = 0; i < n; i++) {
            call(seed, "markets", 1);
            rows.add(call(seed, "ledger", 0));
            rows.add(call(seed, "count", 2));
        }
        if (lot.nextInt(3) == 0) {
            int at = lot.nextInt(rows.size());
            rows.set(at, rows.get(at) + 1);
        }
        if (lot.nextInt(3) == 0) {
            rows.remove(rows.size() - 1);
        }
        for (int v : rows) {
            call(seed, "tell", v);
        }
        call(seed, "check", n);
        if (lot.nextBoolean()) {
            call(seed, "back");
        }
    }
}
