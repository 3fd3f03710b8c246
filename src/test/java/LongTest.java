/** Runs of all 512 calls that the document allows, of a few kinds of calls each, with answers that are worked out apart. */
public final class LongTest {
    private static final Due D = new Due();
    private static final int MOST_CALLS = 512;

    private DayMarket x = new DayMarket();
    private String run = "";
    private int calls = 0;

    public static void main(String[] args) {
        LongTest t = new LongTest();
        t.salesToAndFro();
        t.lostAgainAndAgain();
        t.marketsToTheirBound();
        t.seeds();
        t.textsGivenUp();
        t.tapeFullAndEmpty();
        t.numbersWait();
        t.rowsRightAndWrong();
        t.daysGivenUp();
        t.slots();
        t.sheets();
        t.refused();
        D.end();
    }

    private void start(String name) {
        run = name;
        calls = 0;
        x = new DayMarket();
    }

    private int left() {
        return MOST_CALLS - calls;
    }

    /** The calls that are left ask for what stays: how many DAYS. */
    private void end(int days) {
        while (left() > 0) {
            due(x.count(0), days);
        }
    }

    private void due(int got, int want) {
        calls++;
        D.due(run + ", call " + calls, got, want);
    }

    private void salesToAndFro() {
        start("sales");
        due(x.day(0, 0, 0, 0), 0);
        int sales = 0;
        while (left() > 4) {
            sales++;
            due(x.sale(0, sales % 2, 100), sales);
        }
        due(x.ledger(0), sales);
        due(x.told(0, 4), sales % 2);
        due(x.told(0, 5), 3);
        due(x.ledger(2), 600);
        end(1);
    }

    /** The owner has all that one can have, so all that is paid is LOST. */
    private void lostAgainAndAgain() {
        start("lost");
        due(x.day(0, 0, 0, 0), 0);
        due(x.gives(0, 0, 9999), 100);
        int sales = 0;
        while (left() >= 3) {
            sales++;
            due(x.gives(sales % 2, 0, 9999), sales == 1 ? 100 : 9999);
            due(x.sale(0, sales % 2, 9999), sales);
            due(x.gives(sales % 2, 0, 9999), 0);
        }
        due(x.ledger(1), 9999 * sales);
        end(1);
    }

    private void marketsToTheirBound() {
        start("markets");
        due(x.deal(10), 10);
        int z = drawn(1, 40);
        due(x.count(7), z);
        int sales = 0;
        for (int i = 0; i < 100; i++) {
            sales += x.markets(100);
            calls++;
            due(x.count(1), Math.min(9999, 100 * (i + 1)));
        }
        due(x.ledger(0), sales);
        due(x.count(2), 10 * 99);
        z = drawn(z, 9999 * 10);
        while (left() >= 3) {
            due(x.markets(100), 0);
            due(x.count(1), 9999);
            due(x.count(7), z);
        }
        end(10);
    }

    private static int drawn(int z, int times) {
        int v = z;
        for (int i = 0; i < times; i++) {
            v = v * 1103515245 + 12345;
        }
        return v;
    }

    private void seeds() {
        start("seeds");
        int was = 1;
        while (left() >= 2) {
            int v = drawn(was, 3);
            due(x.seed(v), was);
            due(x.count(7), v);
            was = v;
        }
        end(0);
    }

    private void textsGivenUp() {
        start("texts");
        due(x.keep(), 0);
        for (int i = 100; left() >= 5; i++) {
            String s = "fine c+ " + i + " ";
            due(x.feed(Due.number(s, 0), Due.number(s, 4), Due.number(s, 8)), 12);
            due(x.text(), 0);
            due(x.fine(5), 100 + i);
            due(x.back(), 0);
            due(x.fine(5), 100);
        }
        end(0);
    }

    private void tapeFullAndEmpty() {
        start("tape");
        while (left() >= 10) {
            for (int i = 1; i <= 8; i++) {
                due(x.feed(i, -i, 0), 12 * i);
            }
            due(x.feed(0, 0, 0), DayMarket.FULL);
            due(calls % 20 == 9 ? x.trim(0) : x.text(), calls % 20 == 9 ? 0 : -100);
        }
        end(0);
    }

    private void numbersWait() {
        start("numbers that wait");
        for (int i = 1; left() > 1; i++) {
            due(x.tell(i), i <= 60 ? i : DayMarket.FULL);
        }
        due(x.count(5), 60);
        end(0);
    }

    /** A day that its owner wants most is never sold, and wears by 1 each time. */
    private void rowsRightAndWrong() {
        start("rows");
        due(x.day(5, 0, 0, 0), 0);
        due(x.feed(0x77656172, 0x20312020, 0x20202020), 12);
        due(x.text(), 0);
        due(x.keep(), 1);
        for (int i = 0; left() >= 6; i++) {
            due(x.tell(0), 1);
            due(x.tell(i % 3 == 1 ? 2 : 1), 2);
            due(x.tell(0), 3);
            due(x.tell(i % 3 == 2 ? 1 : 2), 4);
            due(x.check(2), new int[] {0, 2, 4}[i % 3]);
            due(x.count(5), 0);
        }
        end(1);
    }

    private void daysGivenUp() {
        start("days");
        due(x.keep(), 0);
        while (left() >= 12) {
            for (int i = 0; i < 10; i++) {
                due(x.day(i % 6, i, i, i % 6), i);
            }
            due(x.day(0, 0, 0, 0), DayMarket.FULL);
            due(x.back(), 0);
        }
        end(0);
    }

    private void slots() {
        start("slots");
        for (int i = 0; left() >= 2; i++) {
            due(x.lay(i % 5, 3, i), i < 5 ? 0 : 3);
            due(x.rest(i % 5, 7), i % 7);
        }
        end(0);
    }

    private void sheets() {
        start("sheets");
        for (int i = 1; left() >= 6; i++) {
            due(x.sheet(0, i % 2, 24), 24);
            due(x.mark(0, 23, i), 1);
            due(x.sheet(1, i % 2, 24), 24);
            due(x.copy(0, 0, 1, 0, 24), 24);
            due(x.lay(4, 2, 1), i == 1 ? 0 : 2);
            due(x.item(4, 23), i);
        }
        end(0);
    }

    private void refused() {
        start("refused");
        due(x.day(0, 0, 0, 0), 0);
        while (left() > 3) {
            due(x.sale(0, 1, 101), DayMarket.NO);
            due(x.day(0, 0, 0, 6), DayMarket.BAD);
        }
        due(x.ledger(0), 0);
        end(1);
    }
}
