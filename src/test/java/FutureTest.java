/** Promises 18 to 25: what will be. Each thought is held against what comes when it is really done. */
public final class FutureTest {
    private static final Due D = new Due();
    private static final int MIN = Integer.MIN_VALUE, MAX = Integer.MAX_VALUE;

    public static void main(String[] args) {
        emptied();
        behind();
        richest();
        worn();
        dye();
        mends();
        toldBy();
        fine();
        onlyThought();
        D.end();
    }

    private static DayMarket busy(int seed) {
        DayMarket x = new DayMarket();
        x.seed(seed);
        x.deal(9);
        for (int one = 0; one < 6; one++) {
            x.gives(one, 0, 60 * one + 30);
            x.gives(one, 1, (one * 7 + seed) % 10);
        }
        return x;
    }

    private static void emptied() {
        DayMarket x = new DayMarket();
        D.due("owns nothing", x.emptied(0), 0);
        x.day(0, 1, 3, 0);
        x.day(0, 2, 3, 0);
        x.day(0, 3, 9, 1);
        D.due("for the greatest offers", x.emptied(0), 60);
        x.gives(3, 0, 40);
        D.due("the buyer has less then", x.emptied(0), 30 + 25);
        x.gives(0, 1, 3);
        D.due("whatever its own offer is", x.emptied(0), 30 + 25);
        x.gives(0, 0, 9989);
        D.due("9999 at most", x.emptied(0), 10);
        D.due("only thought", x.one(0, 2), 3);
        D.due("only thought", x.ledger(0), 0);
        for (int one = 1; one < 6; one++) {
            x.gives(one, 0, 0);
        }
        x.gives(0, 0, 0);
        D.due("for nothing", x.emptied(0), 0);
        D.due("emptied of nobody", x.emptied(6), DayMarket.BAD);
        D.due("emptied of nobody", x.emptied(-1), DayMarket.BAD);
        DayMarket y = new DayMarket();
        y.day(0, 1, 2, 5);
        y.day(0, 2, 2, 5);
        y.gives(1, 1, 2);
        y.gives(1, 0, 20);
        y.gives(2, 0, 20);
        y.gives(3, 0, 9);
        y.gives(4, 0, 8);
        y.gives(0, 0, 7);
        D.due("of several the least, then the other", y.emptied(5), 40);
    }

    private static void behind() {
        for (int seed = 1; seed < 8; seed++) {
            for (int n : new int[] {0, 1, 7, 100}) {
                DayMarket x = busy(seed);
                x.sale(0, (x.told(0, 4) + 1) % 6, 3);
                x.gives(0, 0, 9990);
                int[][] thought = new int[9][5];
                for (int day = 0; day < 9; day++) {
                    for (int what = 0; what < 5; what++) {
                        thought[day][what] = x.behind(day, n, what);
                    }
                }
                if (n > 0) {
                    x.markets(n);
                }
                for (int day = 0; day < 9; day++) {
                    int[] came = {x.told(day, 4), x.told(day, 6), x.ledger(2), x.ledger(0), x.ledger(1)};
                    for (int what = 0; what < 5; what++) {
                        D.due("seed " + seed + ": behind(" + day + ", " + n + ", " + what + ")", thought[day][what], came[what]);
                    }
                }
            }
        }
        DayMarket x = new DayMarket();
        D.due("behind without days", x.behind(0, 1, 2), DayMarket.BAD);
        x.day(0, 0, 0, 0);
        for (int bad : new int[] {-1, 101, MIN, MAX}) {
            D.due("behind wrong n", x.behind(0, bad, 0), DayMarket.BAD);
        }
        for (int bad : new int[] {-1, 5, MIN, MAX}) {
            D.due("behind wrong what", x.behind(0, 0, bad), DayMarket.BAD);
        }
        D.due("behind of no day", x.behind(1, 0, 2), DayMarket.BAD);
        D.due("behind of no day", x.behind(-1, 0, 2), DayMarket.BAD);
    }

    private static void richest() {
        DayMarket fresh = new DayMarket();
        D.due("of several the least", fresh.richest(0, 0), 0);
        D.due("coins", fresh.richest(100, 1), 100);
        for (int one = 5; one >= 0; one--) {
            fresh.gives(one, 0, 200 - one);
            D.due("richest is " + one, fresh.richest(0, 0), one);
        }
        for (int seed = 1; seed < 8; seed++) {
            DayMarket x = busy(seed);
            int who = x.richest(20, 0);
            int coins = x.richest(20, 1);
            x.markets(20);
            int best = 0;
            for (int one = 0; one < 6; one++) {
                best = x.one(one, 0) > x.one(best, 0) ? one : best;
            }
            D.due("who", who, best);
            D.due("coins", coins, x.one(best, 0));
        }
        for (int bad : new int[] {-1, 101, MIN, MAX}) {
            D.due("richest wrong n", fresh.richest(bad, 0), DayMarket.BAD);
        }
        for (int bad : new int[] {-1, 2, MIN, MAX}) {
            D.due("richest wrong what", fresh.richest(0, bad), DayMarket.BAD);
        }
    }

    private static void worn() {
        DayMarket x = new DayMarket();
        D.due("without days", x.worn(), 0);
        x.day(0, 1, 0, 0);
        D.due("at once", x.worn(), 0);
        x.set(0, 2, 9);
        int n = x.worn();
        for (int i = 0; i < n; i++) {
            D.due("not yet at " + i, x.count(3) > 0 ? 1 : 0, 1);
            x.markets(1);
        }
        D.due("then", x.count(3), 0);
        D.due("it takes a while", n > 10 ? 1 : 0, 1);
        x.day(1, 1, 0, 0);
        D.due("a mended one never is", x.worn(), DayMarket.NONE);

        DayMarket y = new DayMarket();
        y.day(0, 1, 9, 0);
        Due.text(y, "wear 1");
        D.due("by 1 a market", y.worn(), 90);
        Due.text(y, "price 99-w");
        D.due("by 1 a market to 99", y.worn(), 99);
        Due.text(y, "wear x=0");
        Due.text(y, "price w<20");
        int late = y.worn();
        int guess = 0;
        while (guess < 201 && y.count(3) != 0) {
            y.markets(1);
            guess++;
        }
        D.due("late, but by 200", late, guess == 201 ? DayMarket.NONE : guess);
        D.due("all days must be", y.day(5, 0, 0, 0), 1);
        D.due("all days must be", y.worn(), DayMarket.NONE);
        atTheEdgeOf200();
    }

    /** Days that wear by 1 in some markets, the last time in market 200, then 201. */
    private static void atTheEdgeOf200() {
        for (int due = 199; due <= 202; due++) {
            int seed = 0;
            while (!wearsIn(seed, due)) {
                seed++;
            }
            DayMarket x = new DayMarket();
            x.seed(seed);
            x.day(0, 1, 9, 0);
            int times = 0;
            for (int n = 1; n <= due; n++) {
                times += wearsIn(seed, n) ? 1 : 0;
            }
            Due.text(x, "wear x<3");
            Due.text(x, "price w<" + times);
            D.due("worn at " + due, x.worn(), due <= 200 ? due : DayMarket.NONE);
        }
        for (int seed = 1; seed < 40; seed++) {
            DayMarket x = new DayMarket();
            x.seed(seed);
            x.day(0, 1, 9, 0);
            Due.text(x, "wear x<3");
            Due.text(x, "price w<60");
            int worn = x.worn();
            int n = 0;
            while (n <= 200 && x.count(3) != 0) {
                x.markets(1);
                n++;
            }
            D.due("worn of seed " + seed, worn, n <= 200 ? n : DayMarket.NONE);
        }
    }

    private static boolean wearsIn(int seed, int market) {
        int z = seed;
        for (int i = 0; i < market; i++) {
            z = z * 1103515245 + 12345;
        }
        return (z >>> 8) % 10 < 3;
    }

    private static void dye() {
        for (int seed = 1; seed < 6; seed++) {
            for (int day = 0; day < 9; day += 4) {
                DayMarket x = busy(seed);
                int owner = x.told(day, 4);
                int tone = x.dye(day, 12, 0);
                int coins = x.dye(day, 12, 1);
                x.keep();
                int best = -1;
                int most = -1;
                for (int t = 0; t < 10; t++) {
                    x.back();
                    x.set(day, 2, t);
                    x.markets(12);
                    if (x.one(owner, 0) > most) {
                        best = t;
                        most = x.one(owner, 0);
                    }
                }
                D.due("seed " + seed + ": dye(" + day + ", 12, 0)", tone, best);
                D.due("seed " + seed + ": dye(" + day + ", 12, 1)", coins, most);
            }
        }
        DayMarket x = new DayMarket();
        D.due("dye without days", x.dye(0, 1, 0), DayMarket.BAD);
        x.day(5, 0, 5, 0);
        x.gives(0, 1, 9);
        D.due("of several the least", x.dye(0, 60, 0), 1);
        for (int bad : new int[] {0, -1, 61, MIN, MAX}) {
            D.due("dye wrong n", x.dye(0, bad, 0), DayMarket.BAD);
        }
        for (int bad : new int[] {-1, 2, MIN, MAX}) {
            D.due("dye wrong what", x.dye(0, 1, bad), DayMarket.BAD);
        }
        D.due("dye of no day", x.dye(1, 1, 0), DayMarket.BAD);
        D.due("dye of no day", x.dye(-1, 1, 0), DayMarket.BAD);
        D.due("tone stays", x.told(0, 2), 5);
    }

    private static void mends() {
        for (int seed = 1; seed < 12; seed++) {
            DayMarket x = busy(seed);
            x.sale(0, (x.told(0, 4) + 1) % 6, 0);
            int day = x.mends(15, 0);
            int sales = x.mends(15, 1);
            x.keep();
            int best = -1;
            int most = -1;
            for (int d = 0; d < 9; d++) {
                x.back();
                x.turns(d, 1);
                x.markets(15);
                if (x.ledger(0) > most) {
                    best = d;
                    most = x.ledger(0);
                }
            }
            D.due("seed " + seed + ": mends(15, 0)", day, best);
            D.due("seed " + seed + ": mends(15, 1)", sales, most);
        }
        DayMarket x = new DayMarket();
        D.due("mends without days", x.mends(1, 0), DayMarket.NONE);
        for (int bad : new int[] {0, -1, 61, MIN, MAX}) {
            D.due("mends wrong n", x.mends(bad, 0), DayMarket.BAD);
        }
        for (int bad : new int[] {-1, 2, MIN, MAX}) {
            D.due("mends wrong what", x.mends(1, bad), DayMarket.BAD);
        }
        x.day(4, 0, 5, 5);
        D.due("mends", x.mends(60, 0), 0);
        D.due("kind stays", x.told(0, 0), 4);
    }

    private static void toldBy() {
        DayMarket x = new DayMarket();
        D.due("MISSING", x.toldBy(0, 0), DayMarket.NOTHING);
        x.sheet(0, 1, 3);
        D.due("without days", x.toldBy(0, 0), DayMarket.NONE);
        D.due("no sheet", x.toldBy(4, 0), DayMarket.BAD);
        D.due("no sheet", x.toldBy(-1, 0), DayMarket.BAD);
        D.due("no what", x.toldBy(0, 2), DayMarket.BAD);
        D.due("no what", x.toldBy(0, -1), DayMarket.BAD);
        D.due("BAD stands ahead of NOTHING", x.toldBy(1, 2), DayMarket.BAD);
        Due.text(x, "wear t");
        x.day(0, 0, 4, 0);
        x.day(0, 0, 2, 0);
        x.day(0, 0, 2, 0);
        x.mark(0, 0, -1);
        x.mark(0, 1, 3);
        x.mark(0, 2, 4);
        D.due("of several the least", x.toldBy(0, 0), 1);
        D.due("signs left out", x.toldBy(0, 1), 1 + 1 + 0);
        x.mark(0, 2, DayMarket.NONE);
        D.due("numbers alone", x.toldBy(0, 0), 0);
        D.due("numbers alone", x.toldBy(0, 1), 1 + 1);
        x.mark(0, 2, 8);
        D.due("place 2 is behind two markets", x.toldBy(0, 0), 0);
        D.due("place 2 is behind two markets", x.toldBy(0, 1), 2);
        x.sheet(1, 0, 0);
        D.due("an empty sheet", x.toldBy(1, 0), 0);
        D.due("an empty sheet", x.toldBy(1, 1), 0);
        x.sheet(2, 0, 24);
        int all = 0;
        for (int k = 0; k < 24; k++) {
            x.mark(2, k, -32768);
            all += 32768 + Math.min(99, 2 * k);
        }
        D.due("24 places", x.toldBy(2, 0), 1);
        D.due("24 places", x.toldBy(2, 1), all);
        D.due("only thought", x.count(2), 0);
    }

    private static void fine() {
        DayMarket x = new DayMarket();
        x.day(0, 0, 0, 2);
        x.day(0, 0, 0, 2);
        D.due("without a text: coins", x.fine(2), 100);
        Due.text(x, "fine n*1000+c");
        D.due("by a text", x.fine(2), 2100);
        D.due("by a text", x.fine(3), 100);
        Due.text(x, "fine 0-c");
        D.due("below 0", x.fine(2), -100);
        Due.text(x, "fine 9999*9999*9999");
        D.due("it wraps", x.fine(0), 9999 * 9999 * 9999);
        D.due("fine of nobody", x.fine(6), DayMarket.BAD);
        D.due("fine of nobody", x.fine(-1), DayMarket.BAD);
    }

    private static void onlyThought() {
        DayMarket x = busy(3);
        D.due("ten days: every row is full", x.deal(1), 1);
        x.sheet(0, 0, 24);
        x.falseMany();
        x.isTrue(0);
        int[] before = all(x);
        x.emptied(x.told(0, 4));
        x.behind(0, 100, 0);
        x.richest(100, 0);
        x.worn();
        x.dye(0, 60, 0);
        x.mends(60, 0);
        x.toldBy(0, 0);
        x.fill(0, 0);
        x.keep();
        x.check(30);
        int[] behind = all(x);
        for (int i = 0; i < before.length; i++) {
            D.due("only thought: row " + i, behind[i], before[i]);
        }
    }

    private static int[] all(DayMarket x) {
        int[] row = new int[8 + 3 + 6 * 3 + 9 * 8];
        int at = 0;
        for (int what = 0; what < 8; what++) {
            row[at++] = x.count(what);
        }
        for (int what = 0; what < 3; what++) {
            row[at++] = x.ledger(what);
        }
        for (int i = 0; i < 18; i++) {
            row[at++] = x.one(i / 3, i % 3);
        }
        for (int i = 0; i < 72; i++) {
            row[at++] = x.told(i / 8, i % 8);
        }
        return row;
    }
}
