import java.util.ArrayList;
import java.util.Arrays;
import java.util.List;

/**
 * The document read a second time, in another way than DayMarket's: kinds as classes, texts worked out from
 * their words each time, every set by recursion. It may make and throw what it likes; ModelTest holds both together.
 */
final class Model {
    static final int BAD = -1000000001, NO = -1000000002, FULL = -1000000003, NONE = -1000000005;
    static final int NOTHING = -1000000011, KIND = -1000000012, INDEX = -1000000013, SIZE = -1000000014;

    static class Day implements Cloneable {
        int date, tone, wear, owner, had;

        int kind() { return 0; }
        int seen() { return tone; }
        int base(State s) { return s.price(seen(), wear, date); }
        int value(State s) { return base(s); }
        int worth() { return date; }

        Day copy() {
            try {
                return (Day) clone();
            } catch (CloneNotSupportedException e) {
                throw new IllegalStateException(e);
            }
        }
    }

    static class Mended extends Day {
        @Override int kind() { return 1; }
        @Override int value(State s) { return super.value(s) + 20; }
        @Override int worth() { return super.worth() + 7; }
    }

    static class Dyed extends Day {
        @Override int kind() { return 2; }
        @Override int seen() { return 9 - tone; }
        @Override int worth() { return 99 - date; }
    }

    static class Patched extends Mended {
        @Override int kind() { return 3; }
        @Override int value(State s) { return super.value(s) / 2; }
        @Override int worth() { return 2 * super.worth(); }
    }

    static class Faded extends Dyed {
        @Override int kind() { return 4; }
        @Override int value(State s) { return Math.max(0, super.value(s) - wear); }
        @Override int worth() { return super.worth() - 3; }
    }

    static class Dreamt extends Day {
        @Override int kind() { return 5; }
        @Override int value(State s) { return 5; }
        @Override int worth() { return 6; }
    }

    static final Class<?>[] CLASSES = {Day.class, Mended.class, Dyed.class, Patched.class, Faded.class, Dreamt.class};

    static Day newDay(int kind) {
        switch (kind) {
            case 0: return new Day();
            case 1: return new Mended();
            case 2: return new Dyed();
            case 3: return new Patched();
            case 4: return new Faded();
            default: return new Dreamt();
        }
    }

    static final class State {
        List<Day> days = new ArrayList<>();
        int[] coins = {100, 100, 100, 100, 100, 100};
        int[] wish = {0, 1, 2, 3, 4, 5};
        List<List<String>> texts = new ArrayList<>();
        int sales, lost, market, z = 1;

        State copy() {
            State s = new State();
            for (Day d : days) {
                s.days.add(d.copy());
            }
            s.coins = coins.clone();
            s.wish = wish.clone();
            s.texts = new ArrayList<>(texts);
            s.sales = sales;
            s.lost = lost;
            s.market = market;
            s.z = z;
            return s;
        }

        int lastOf(String key) {
            for (int i = texts.size() - 1; i >= 0; i--) {
                if (texts.get(i).get(0).equals(key)) {
                    return i;
                }
            }
            return -1;
        }

        Integer law(String key, String names, int... values) {
            int i = lastOf(key);
            return i < 0 ? null : work(texts.get(i).subList(1, texts.get(i).size()), names, values);
        }

        int price(int t, int w, int d) {
            Integer v = law("price", "twd", t, w, d);
            return v == null ? Math.max(0, 10 * t - w) : Math.min(999, Math.max(0, v));
        }

        int draw() {
            z = z * 1103515245 + 12345;
            return z >>> 8;
        }

        int offer(int one, int day) {
            Day d = days.get(day);
            int v = d.value(this) - 5 * Math.abs(d.tone - wish[one]);
            if (d.owner != one && v > coins[one]) {
                v = coins[one];
            }
            return Math.max(v, 0);
        }

        int buyer(int day) {
            int best = -1;
            for (int one = 5; one >= 0; one--) {
                if (one != days.get(day).owner && (best < 0 || offer(one, day) >= offer(best, day))) {
                    best = one;
                }
            }
            return best;
        }

        void sale(int day, int to, int price) {
            Day d = days.get(day);
            coins[to] -= price;
            coins[d.owner] += price;
            if (coins[d.owner] > 9999) {
                lost += coins[d.owner] - 9999;
                coins[d.owner] = 9999;
            }
            d.owner = to;
            d.had |= 1 << to;
            sales++;
        }

        State after(int n) {
            for (int i = 0; i < n; i++) {
                for (Day d : days) {
                    int x = draw() % 10;
                    Integer v = law("wear", "xtw", x, d.tone, d.wear);
                    d.wear = Math.min(99, d.wear + (v == null ? x / 3 : Math.min(20, Math.max(0, v))));
                }
                for (int day = 0; day < days.size(); day++) {
                    int to = buyer(day);
                    if (offer(to, day) > offer(days.get(day).owner, day)) {
                        sale(day, to, offer(to, day));
                    }
                }
                market++;
            }
            return this;
        }

        int owned(int one) {
            int set = 0;
            for (int day = 0; day < days.size(); day++) {
                set |= days.get(day).owner == one ? 1 << day : 0;
            }
            return set;
        }

        int wear() {
            return days.stream().mapToInt(d -> d.wear).sum();
        }

        int value() {
            return days.stream().mapToInt(d -> d.value(this)).sum();
        }

        int allCoins() {
            return Arrays.stream(coins).sum();
        }
    }

    /** The loosest sign outside all brackets, the last of them, splits the words. */
    static int work(List<String> words, String names, int[] values) {
        for (String signs : new String[] {"|", "&", "<=>", "+-", "*/"}) {
            int open = 0;
            for (int i = words.size() - 1; i > 0; i--) {
                String w = words.get(i);
                open += w.equals(")") ? 1 : w.equals("(") ? -1 : 0;
                if (open == 0 && signs.contains(w)) {
                    int a = work(words.subList(0, i), names, values);
                    int b = work(words.subList(i + 1, words.size()), names, values);
                    return joined(w.charAt(0), a, b);
                }
            }
        }
        String w = words.get(0);
        if (w.equals("!")) {
            return work(words.subList(1, words.size()), names, values) == 0 ? 1 : 0;
        }
        if (w.equals("(")) {
            return work(words.subList(1, words.size() - 1), names, values);
        }
        return Character.isDigit(w.charAt(0)) ? Integer.parseInt(w) : values[names.indexOf(w)];
    }

    static int joined(char sign, int a, int b) {
        switch (sign) {
            case '|': return (a != 0 ? 1 : 0) | (b != 0 ? 1 : 0);
            case '&': return (a != 0 ? 1 : 0) & (b != 0 ? 1 : 0);
            case '<': return a < b ? 1 : 0;
            case '=': return a == b ? 1 : 0;
            case '>': return a > b ? 1 : 0;
            case '+': return a + b;
            case '-': return a - b;
            case '*': return a * b;
            default: return b == 0 ? 0 : a / b;
        }
    }

    State now = new State();
    State image;
    StringBuilder tape = new StringBuilder();
    List<Integer> waiting = new ArrayList<>();
    /** A row of doubles, NaN for NO NUMBER, and its sort. */
    double[][] sheets = new double[4][];
    int[] sorts = new int[4];
    Object[] slots = new Object[5];

    static boolean out(int v, int least, int most) {
        return v < least || v > most;
    }

    boolean noDay(int day) {
        return out(day, 0, now.days.size() - 1);
    }

    public int day(int kind, int date, int tone, int owner) {
        if (out(kind, 0, 5) || out(date, 0, 99) || out(tone, 0, 9) || out(owner, 0, 5)) {
            return BAD;
        }
        if (now.days.size() == 10) {
            return FULL;
        }
        Day d = newDay(kind);
        d.date = date;
        d.tone = tone;
        d.owner = owner;
        d.had = 1 << owner;
        now.days.add(d);
        return now.days.size() - 1;
    }

    public int told(int day, int what) {
        if (noDay(day) || out(what, 0, 7)) {
            return BAD;
        }
        Day d = now.days.get(day);
        return new int[] {d.kind(), d.date, d.tone, d.wear, d.owner, d.had, d.value(now), d.worth()}[what];
    }

    public int as(int day, int kind) {
        if (noDay(day) || out(kind, 0, 5)) {
            return BAD;
        }
        return CLASSES[kind].isInstance(now.days.get(day)) ? now.days.get(day).date : KIND;
    }

    static Day turned(Day d, int kind) {
        Day t = newDay(kind);
        t.date = d.date;
        t.tone = d.tone;
        t.wear = d.wear;
        t.owner = d.owner;
        t.had = d.had;
        return t;
    }

    public int turns(int day, int kind) {
        if (noDay(day) || out(kind, 0, 5)) {
            return BAD;
        }
        int was = now.days.get(day).kind();
        now.days.set(day, turned(now.days.get(day), kind));
        return was;
    }

    public int set(int day, int what, int v) {
        if (noDay(day) || out(what, 1, 3) || out(v, 0, what == 2 ? 9 : 99)) {
            return BAD;
        }
        Day d = now.days.get(day);
        int was = told(day, what);
        if (what == 1) {
            d.date = v;
        } else if (what == 2) {
            d.tone = v;
        } else {
            d.wear = v;
        }
        return was;
    }

    public int one(int one, int what) {
        if (out(one, 0, 5) || out(what, 0, 2)) {
            return BAD;
        }
        return what == 0 ? now.coins[one] : what == 1 ? now.wish[one] : now.owned(one);
    }

    public int gives(int one, int what, int v) {
        if (out(one, 0, 5) || out(what, 0, 1) || out(v, 0, what == 0 ? 9999 : 9)) {
            return BAD;
        }
        int was = one(one, what);
        (what == 0 ? now.coins : now.wish)[one] = v;
        return was;
    }

    public int offer(int one, int day) {
        return out(one, 0, 5) || noDay(day) ? BAD : now.offer(one, day);
    }

    public int deal(int n) {
        if (out(n, 1, 10)) {
            return BAD;
        }
        int came = 0;
        while (came < n && now.days.size() < 10) {
            int kind = now.draw() % 6;
            int date = now.draw() % 100;
            int tone = now.draw() % 10;
            day(kind, date, tone, now.draw() % 6);
            came++;
        }
        return came;
    }

    public int seed(int v) {
        int was = now.z;
        now.z = v;
        return was;
    }

    public int sale(int day, int to, int coins) {
        if (noDay(day) || out(to, 0, 5) || out(coins, 0, 9999)) {
            return BAD;
        }
        if (now.days.get(day).owner == to || coins > now.coins[to]) {
            return NO;
        }
        now.sale(day, to, coins);
        return now.sales;
    }

    public int markets(int n) {
        if (out(n, 1, 100)) {
            return BAD;
        }
        int before = now.sales;
        for (int i = 0; i < n && now.market < 9999; i++) {
            now.after(1);
        }
        return now.sales - before;
    }

    public int ledger(int what) {
        return out(what, 0, 2) ? BAD : what == 0 ? now.sales : what == 1 ? now.lost : now.allCoins();
    }

    int[] tones(int date) {
        int[] many = new int[10];
        for (Day d : now.days) {
            many[d.tone] += d.date == date ? 1 : 0;
        }
        return many;
    }

    public int isTrue(int date) {
        if (out(date, 0, 99)) {
            return BAD;
        }
        int[] many = tones(date);
        int most = Arrays.stream(many).max().getAsInt();
        for (int tone = 0; tone < 10; tone++) {
            if (most > 0 && many[tone] == most) {
                return tone;
            }
        }
        return NONE;
    }

    public int falseMany() {
        int few = 0;
        for (int date = 0; date < 100; date++) {
            few += Arrays.stream(tones(date)).sum() - Arrays.stream(tones(date)).max().getAsInt();
        }
        return few;
    }

    public int fill(int one, int what) {
        if (out(one, 0, 5) || out(what, 0, 2)) {
            return BAD;
        }
        int[] best = {0, 0, 0};
        fillFrom(now.days.size() - 1, one, new int[3], new boolean[100], best);
        return best[what];
    }

    /** row: the set, its joy, its values. */
    void fillFrom(int day, int one, int[] row, boolean[] dates, int[] best) {
        if (row[2] > now.coins[one]) {
            return;
        }
        if (day < 0) {
            int few = Integer.bitCount(row[0]) - Integer.bitCount(best[0]);
            if (row[1] > best[1] || row[1] == best[1] && (few < 0 || few == 0 && row[0] < best[0])) {
                System.arraycopy(row, 0, best, 0, 3);
            }
            return;
        }
        fillFrom(day - 1, one, row, dates, best);
        Day d = now.days.get(day);
        if (d.owner != one && !dates[d.date]) {
            dates[d.date] = true;
            int joy = 10 - Math.abs(d.tone - now.wish[one]);
            fillFrom(day - 1, one, new int[] {row[0] | 1 << day, row[1] + joy, row[2] + d.value(now)}, dates, best);
            dates[d.date] = false;
        }
    }

    public int emptied(int one) {
        if (out(one, 0, 5)) {
            return BAD;
        }
        State s = now.copy();
        for (int day = 0; day < s.days.size(); day++) {
            if (s.days.get(day).owner == one) {
                int to = s.buyer(day);
                s.sale(day, to, s.offer(to, day));
            }
        }
        return s.coins[one] - now.coins[one];
    }

    public int behind(int day, int n, int what) {
        if (noDay(day) || out(n, 0, 100) || out(what, 0, 4)) {
            return BAD;
        }
        State s = now.copy().after(n);
        return new int[] {s.days.get(day).owner, s.days.get(day).value(s), s.allCoins(), s.sales, s.lost}[what];
    }

    public int richest(int n, int what) {
        if (out(n, 0, 100) || out(what, 0, 1)) {
            return BAD;
        }
        State s = now.copy().after(n);
        int most = Arrays.stream(s.coins).max().getAsInt();
        int who = 0;
        while (s.coins[who] != most) {
            who++;
        }
        return what == 0 ? who : most;
    }

    public int worn() {
        State s = now.copy();
        for (int n = 0; n <= 200; n++, s.after(1)) {
            if (s.value() == 0) {
                return n;
            }
        }
        return NONE;
    }

    public int dye(int day, int n, int what) {
        if (noDay(day) || out(n, 1, 60) || out(what, 0, 1)) {
            return BAD;
        }
        int[] coins = new int[10];
        for (int tone = 0; tone < 10; tone++) {
            State s = now.copy();
            s.days.get(day).tone = tone;
            coins[tone] = s.after(n).coins[now.days.get(day).owner];
        }
        return firstMost(coins, what);
    }

    static int firstMost(int[] row, int what) {
        int most = Arrays.stream(row).max().getAsInt();
        int at = 0;
        while (row[at] != most) {
            at++;
        }
        return what == 0 ? at : most;
    }

    public int mends(int n, int what) {
        if (out(n, 1, 60) || out(what, 0, 1)) {
            return BAD;
        }
        if (now.days.isEmpty()) {
            return NONE;
        }
        int[] sales = new int[now.days.size()];
        for (int day = 0; day < sales.length; day++) {
            State s = now.copy();
            s.days.set(day, turned(s.days.get(day), 1));
            sales[day] = s.after(n).sales;
        }
        return firstMost(sales, what);
    }

    public int toldBy(int sheet, int what) {
        if (out(sheet, 0, 3) || out(what, 0, 1)) {
            return BAD;
        }
        if (sheets[sheet] == null) {
            return NOTHING;
        }
        if (now.days.isEmpty()) {
            return NONE;
        }
        int[] less = new int[now.days.size()];
        for (int k = 0; k < sheets[sheet].length; k++) {
            State s = now.copy().after(k);
            for (int day = 0; day < less.length; day++) {
                double v = sheets[sheet][k];
                less[day] -= Double.isNaN(v) ? 0 : (int) Math.abs(v - s.days.get(day).wear);
            }
        }
        int got = firstMost(less, what);
        return what == 0 ? got : -got;
    }

    public int fine(int one) {
        if (out(one, 0, 5)) {
            return BAD;
        }
        Integer v = now.law("fine", "cn", now.coins[one], Integer.bitCount(now.owned(one)));
        return v == null ? now.coins[one] : v;
    }

    public int feed(int a, int b, int c) {
        if (tape.length() + 12 > 96) {
            return FULL;
        }
        for (int v : new int[] {a, b, c}) {
            for (byte part : java.nio.ByteBuffer.allocate(4).putInt(v).array()) {
                tape.append((char) (part & 255));
            }
        }
        return tape.length();
    }

    public int trim(int n) {
        if (out(n, 0, tape.length())) {
            return BAD;
        }
        tape.setLength(n);
        return n;
    }

    /** One open bracket: whether its TEST has its sign already, and how many ! stand open around what is in it. */
    static final class Frame {
        boolean tested;
        final int nots;

        Frame(int nots) {
            this.nots = nots;
        }
    }

    /** The words, or the place of the FAULT as the only one behind an empty word. */
    static List<String> read(String s) {
        List<String> words = new ArrayList<>();
        java.util.regex.Matcher m = java.util.regex.Pattern.compile("[a-z]+|[0-9]+|[^ ]", java.util.regex.Pattern.DOTALL).matcher(s);
        ArrayList<Frame> frames = new ArrayList<>(List.of(new Frame(0)));
        boolean wantsPiece = true;
        int nots = 0;
        int wordEnd = -1;
        while (m.find()) {
            String w = m.group();
            boolean word = w.matches("[a-z]+|[0-9]+");
            Frame f = frames.get(frames.size() - 1);
            boolean fits;
            if (word && m.start() == wordEnd) {
                fits = false;
            } else if (words.isEmpty()) {
                fits = w.matches("price|wear|fine");
            } else if (wantsPiece && w.equals("!")) {
                fits = ++nots <= 8;
            } else if (wantsPiece && w.equals("(")) {
                frames.add(new Frame(nots));
                fits = frames.size() <= 9;
            } else if (wantsPiece) {
                String names = words.get(0).equals("price") ? "[twd]" : words.get(0).equals("wear") ? "[xtw]" : "[cn]";
                fits = w.matches("[0-9]{1,4}|" + names);
                wantsPiece = false;
                nots = f.nots;
            } else if (w.equals(")")) {
                frames.remove(frames.size() - 1);
                fits = !frames.isEmpty();
                nots = fits ? frames.get(frames.size() - 1).nots : 0;
            } else {
                fits = "+-*/&|".contains(w) || "<=>".contains(w) && !f.tested;
                f.tested = "&|".contains(w) ? false : f.tested || "<=>".contains(w);
                wantsPiece = true;
            }
            if (!fits) {
                return List.of("", "" + m.start());
            }
            words.add(w);
            wordEnd = word ? m.end() : -1;
        }
        return wantsPiece || frames.size() > 1 ? List.of("", "" + s.length()) : words;
    }

    public int text() {
        List<String> words = read(tape.toString());
        tape.setLength(0);
        if (words.get(0).isEmpty()) {
            return -100 - Integer.parseInt(words.get(1));
        }
        if (now.texts.size() == 14) {
            return FULL;
        }
        now.texts.add(words);
        return now.texts.size() - 1;
    }

    public int textTold(int text, int what) {
        if (out(text, 0, now.texts.size() - 1) || out(what, 0, 1)) {
            return BAD;
        }
        List<String> words = now.texts.get(text);
        return what == 0 ? List.of("price", "wear", "fine").indexOf(words.get(0))
            : (int) words.stream().skip(1).filter(w -> w.matches("[a-z0-9]+")).count();
    }

    public int why(int key) {
        if (out(key, 0, 2)) {
            return BAD;
        }
        int text = now.lastOf(List.of("price", "wear", "fine").get(key));
        return text < 0 ? NONE : text;
    }

    public int sheet(int sheet, int sort, int n) {
        if (out(sheet, 0, 3) || out(sort, -1, 1) || sort >= 0 && n > 24) {
            return BAD;
        }
        if (sort >= 0 && n < 0) {
            return SIZE;
        }
        sheets[sheet] = sort < 0 ? null : new double[n];
        sorts[sheet] = sort;
        return sort < 0 ? 0 : n;
    }

    public int mark(int sheet, int place, int v) {
        if (out(sheet, 0, 3)) {
            return BAD;
        }
        if (sheets[sheet] == null) {
            return NOTHING;
        }
        if (out(place, 0, sheets[sheet].length - 1)) {
            return INDEX;
        }
        if (sorts[sheet] == 0 && v == NONE) {
            return KIND;
        }
        if (sorts[sheet] == 1 && v != NONE && out(v, -99999, 99999)) {
            return BAD;
        }
        sheets[sheet][place] = sorts[sheet] == 0 ? (short) v : v == NONE ? Double.NaN : v;
        return 1;
    }

    public int pour(int sheet) {
        if (out(sheet, 0, 3)) {
            return BAD;
        }
        if (sheets[sheet] == null) {
            return NOTHING;
        }
        int[] before = now.coins.clone();
        int otherwise = 0;
        for (int one = 0; one < 6; one++) {
            if (one < sheets[sheet].length && !Double.isNaN(sheets[sheet][one])) {
                now.coins[one] = (int) Math.max(0, Math.min(9999, sheets[sheet][one]));
            }
            otherwise += now.coins[one] != before[one] ? 1 : 0;
        }
        return otherwise;
    }

    public int reads(int sheet) {
        if (out(sheet, 0, 3)) {
            return BAD;
        }
        if (sheets[sheet] == null) {
            return NOTHING;
        }
        for (int k = 0; k < sheets[sheet].length; k++) {
            double v = sheets[sheet][k];
            if (!Double.isNaN(v) && (noDay(k) || now.days.get(k).wear != v)) {
                return k;
            }
        }
        return NONE;
    }

    public int copy(int from, int place, int to, int at, int many) {
        if (out(from, 0, 3) || out(to, 0, 3)) {
            return BAD;
        }
        if (sheets[from] == null || sheets[to] == null) {
            return NOTHING;
        }
        if (sorts[from] != sorts[to]) {
            return KIND;
        }
        if (place < 0 || at < 0 || many < 0 || (long) place + many > sheets[from].length || (long) at + many > sheets[to].length) {
            return INDEX;
        }
        double[] were = sheets[from].clone();
        for (int i = 0; i < many; i++) {
            sheets[to][at + i] = were[place + i];
        }
        return many;
    }

    static int held(Object o) {
        return o == null ? 0 : o instanceof Day ? 1 : o instanceof double[] ? 2 : 3;
    }

    public int lay(int slot, int thing, int k) {
        if (out(slot, 0, 4) || out(thing, 0, 3) || thing == 1 && noDay(k) || thing == 2 && out(k, 0, 3)) {
            return BAD;
        }
        if (thing == 2 && sheets[k] == null) {
            return NOTHING;
        }
        int was = held(slots[slot]);
        slots[slot] = thing == 0 ? null : thing == 1 ? now.days.get(k).copy() : thing == 2 ? sheets[k].clone() : (Object) k;
        return was;
    }

    public int ask(int slot, int kind) {
        if (out(slot, 0, 4) || out(kind, 0, 5)) {
            return BAD;
        }
        return slots[slot] == null ? NOTHING : CLASSES[kind].isInstance(slots[slot]) ? ((Day) slots[slot]).worth() : KIND;
    }

    public int item(int slot, int place) {
        if (out(slot, 0, 4)) {
            return BAD;
        }
        if (held(slots[slot]) != 2) {
            return slots[slot] == null ? NOTHING : KIND;
        }
        double[] row = (double[]) slots[slot];
        return out(place, 0, row.length - 1) ? INDEX : Double.isNaN(row[place]) ? KIND : (int) row[place];
    }

    public int rest(int slot, int n) {
        if (out(slot, 0, 4)) {
            return BAD;
        }
        if (held(slots[slot]) != 3) {
            return slots[slot] == null ? NOTHING : KIND;
        }
        long v = (Integer) slots[slot];
        return n == 0 ? NO : (int) (v - v / n * n);
    }

    public int tell(int v) {
        if (waiting.size() == 60) {
            return FULL;
        }
        waiting.add(v);
        return waiting.size();
    }

    public int check(int n) {
        List<Integer> told = waiting;
        waiting = new ArrayList<>();
        if (out(n, 1, 30)) {
            return BAD;
        }
        if (image == null) {
            return NO;
        }
        List<Integer> due = new ArrayList<>();
        State s = image.copy();
        for (int i = 0; i < n && s.market < 9999; i++) {
            s.after(1);
            due.add(s.sales);
            due.add(s.wear());
        }
        int right = 0;
        while (right < told.size() && right < due.size() && told.get(right).equals(due.get(right))) {
            right++;
        }
        return told.equals(due) ? 0 : 1 + right;
    }

    public int keep() {
        image = now.copy();
        return now.days.size();
    }

    public int back() {
        if (image == null) {
            return NO;
        }
        now = image.copy();
        return now.days.size();
    }

    public int count(int what) {
        if (out(what, 0, 7)) {
            return BAD;
        }
        return new int[] {now.days.size(), now.market, now.wear(), now.value(), now.texts.size(), waiting.size(), tape.length(), now.z}[what];
    }
}
