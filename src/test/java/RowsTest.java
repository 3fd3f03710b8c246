/** Promises 40 to 44: rows, images. */
public final class RowsTest {
    private static final Due D = new Due();
    private static final int MIN = Integer.MIN_VALUE, MAX = Integer.MAX_VALUE;

    public static void main(String[] args) {
        tell();
        check();
        checkOfThirty();
        keepAndBack();
        count();
        D.end();
    }

    private static void tell() {
        DayMarket x = new DayMarket();
        for (int i = 1; i <= 60; i++) {
            D.due("tell " + i, x.tell(i % 2 == 0 ? MIN : MAX), i);
        }
        D.due("60 wait", x.tell(0), DayMarket.FULL);
        D.due("60 wait", x.count(5), 60);
    }

    private static DayMarket busy() {
        DayMarket x = new DayMarket();
        x.seed(5);
        x.deal(6);
        for (int one = 0; one < 6; one++) {
            x.gives(one, 0, 900);
        }
        x.markets(1);
        return x;
    }

    /** SALES and WEAR behind each of n MARKETS, by really having them, from the image and back to it. */
    private static int[] rows(DayMarket x, int n) {
        int[] rows = new int[2 * n];
        x.back();
        for (int i = 0; i < n; i++) {
            x.markets(1);
            rows[2 * i] = x.ledger(0);
            rows[2 * i + 1] = x.count(2);
        }
        x.back();
        return rows;
    }

    private static void tellAll(DayMarket x, int[] rows, int many) {
        for (int i = 0; i < many; i++) {
            x.tell(rows[i]);
        }
    }

    private static void check() {
        DayMarket x = busy();
        x.tell(4);
        D.due("no image", x.check(1), DayMarket.NO);
        D.due("none wait then", x.count(5), 0);
        x.tell(4);
        D.due("BAD stands ahead of NO", x.check(0), DayMarket.BAD);
        D.due("none wait then", x.count(5), 0);
        D.due("image", x.keep(), 6);
        for (int bad : new int[] {0, -1, 31, MIN, MAX}) {
            x.tell(4);
            D.due("check wrong", x.check(bad), DayMarket.BAD);
            D.due("none wait then", x.count(5), 0);
        }
        int[] rows = rows(x, 3);
        D.due("sales so far count", rows[0] > 0 ? 1 : 0, 1);
        tellAll(x, rows, 6);
        D.due("as told", x.check(3), 0);
        D.due("none wait then", x.count(5), 0);
        tellAll(x, rows, 6);
        D.due("two too many", x.check(2), 5);
        tellAll(x, rows, 5);
        D.due("one is missing", x.check(3), 6);
        D.due("all are missing", x.check(3), 1);
        for (int wrong = 0; wrong < 6; wrong++) {
            rows[wrong]++;
            tellAll(x, rows, 6);
            D.due("wrong at " + wrong, x.check(3), 1 + wrong);
            rows[wrong]--;
        }
        x.markets(50);
        x.gives(0, 0, 0);
        Due.text(x, "wear 20");
        x.seed(99);
        tellAll(x, rows, 6);
        D.due("by the image, not by what is now", x.check(3), 0);
        D.due("what is now stays", x.count(7), 99);
        D.due("what is now stays", x.count(1), 51);
        byTextsOfTheImage();
    }

    private static void byTextsOfTheImage() {
        DayMarket x = new DayMarket();
        x.day(0, 0, 0, 0);
        Due.text(x, "wear 7");
        x.keep();
        Due.text(x, "wear 9");
        x.tell(0);
        x.tell(7);
        D.due("the image's text counts", x.check(1), 0);
        x.back();
        Due.text(x, "wear 11");
        x.tell(0);
        x.tell(7);
        D.due("the image's text counts behind back", x.check(1), 0);
        x.markets(1);
        D.due("the new text counts now", x.told(0, 3), 11);
    }

    private static void checkOfThirty() {
        DayMarket x = busy();
        x.keep();
        int[] rows = rows(x, 30);
        tellAll(x, rows, 60);
        D.due("thirty", x.check(30), 0);
        rows[59]++;
        tellAll(x, rows, 60);
        D.due("wrong at the last", x.check(30), 60);

        DayMarket y = new DayMarket();
        for (int i = 0; i < 99; i++) {
            y.markets(100);
        }
        y.markets(97);
        y.day(0, 1, 5, 5);
        y.keep();
        rows = rows(y, 2);
        D.due("THE MARKET", y.count(1), 9997);
        tellAll(y, rows, 4);
        D.due("fewer, up to 9999", y.check(30), 0);
        tellAll(y, rows, 4);
        y.tell(0);
        D.due("one too many", y.check(30), 5);
        tellAll(y, rows, 2);
        D.due("one", y.check(1), 0);
    }

    private static void keepAndBack() {
        DayMarket x = busy();
        D.due("no image", x.back(), DayMarket.NO);
        Due.text(x, "fine 5");
        x.gives(3, 1, 9);
        x.sale(0, (x.told(0, 4) + 1) % 6, 900 > x.one((x.told(0, 4) + 1) % 6, 0) ? 0 : 900);
        D.due("keep", x.keep(), 6);
        int[] before = all(x);
        for (int again = 0; again < 2; again++) {
            change(x);
            D.due("changed", same(before, all(x)), 0);
            D.due("back", x.back(), 6);
            D.due("all is as the image", same(before, all(x)), 1);
        }
        x.tell(3);
        x.feed(1, 2, 3);
        x.sheet(2, 0, 2);
        x.mark(2, 1, 44);
        x.lay(3, 3, 10);
        x.back();
        D.due("numbers that wait stay", x.count(5), 1);
        D.due("THE TAPE stays", x.count(6), 12);
        D.due("sheets stay", x.mark(2, 1, 44), 1);
        D.due("slots stay", x.rest(3, 7), 3);
        x.day(0, 0, 0, 0);
        D.due("keep anew", x.keep(), 7);
        x.deal(1);
        D.due("back anew", x.back(), 7);
        D.due("days", x.count(0), 7);
    }

    private static void change(DayMarket x) {
        x.trim(0);
        Due.text(x, "fine 6");
        Due.text(x, "price w");
        x.day(0, 1, 2, 3);
        for (int day = 0; day < 6; day++) {
            x.turns(day, (x.told(day, 0) + 1) % 6);
            x.set(day, 1, 77);
            x.set(day, 2, (x.told(day, 2) + 1) % 10);
            x.set(day, 3, 88);
        }
        x.gives(0, 1, 8);
        x.gives(0, 0, 9990);
        x.markets(10);
        x.seed(-9);
    }

    private static int same(int[] a, int[] b) {
        return java.util.Arrays.equals(a, b) ? 1 : 0;
    }

    private static int[] all(DayMarket x) {
        int[] row = new int[200];
        int at = 0;
        for (int what = 0; what < 8; what++) {
            row[at++] = what == 5 || what == 6 ? 0 : x.count(what);
        }
        for (int what = 0; what < 3; what++) {
            row[at++] = x.ledger(what);
            row[at++] = x.why(what);
        }
        for (int one = 0; one < 6; one++) {
            for (int what = 0; what < 3; what++) {
                row[at++] = x.one(one, what);
            }
            row[at++] = x.fine(one);
        }
        for (int day = 0; day < 8; day++) {
            for (int what = 0; what < 8; what++) {
                row[at++] = x.told(day, what);
            }
        }
        return row;
    }

    private static void count() {
        DayMarket x = busy();
        int wear = 0;
        int value = 0;
        for (int day = 0; day < 6; day++) {
            wear += x.told(day, 3);
            value += x.told(day, 6);
        }
        Due.text(x, "fine 1");
        x.tell(1);
        x.tell(1);
        x.feed(0, 0, 0);
        x.seed(-77);
        int[] due = {6, 1, wear, value, 1, 2, 12, -77};
        for (int what = 0; what < 8; what++) {
            D.due("count(" + what + ")", x.count(what), due[what]);
        }
        for (int bad : new int[] {-1, 8, MIN, MAX}) {
            D.due("count wrong", x.count(bad), DayMarket.BAD);
        }
    }
}
