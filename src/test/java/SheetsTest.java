/** Promises 31 to 39: sheets, slots. */
public final class SheetsTest {
    private static final Due D = new Due();
    private static final int MIN = Integer.MIN_VALUE, MAX = Integer.MAX_VALUE;

    public static void main(String[] args) {
        sheet();
        mark();
        pour();
        reads();
        copy();
        lay();
        ask();
        item();
        rest();
        D.end();
    }

    /** A place of a sheet, by way of a slot. */
    private static int at(DayMarket x, int sheet, int place) {
        x.lay(4, 2, sheet);
        return x.item(4, place);
    }

    private static void sheet() {
        DayMarket x = new DayMarket();
        for (int bad : new int[] {-1, 4, MIN, MAX}) {
            D.due("no sheet", x.sheet(bad, 0, 1), DayMarket.BAD);
            D.due("no sheet to be MISSING", x.sheet(bad, -1, 1), DayMarket.BAD);
            D.due("no sheet, SIZE too", x.sheet(bad, 0, -1), DayMarket.BAD);
        }
        for (int bad : new int[] {-2, 2, MIN, MAX}) {
            D.due("no sort", x.sheet(0, bad, 1), DayMarket.BAD);
            D.due("no sort, SIZE too", x.sheet(0, bad, -1), DayMarket.BAD);
        }
        D.due("n above", x.sheet(0, 0, 25), DayMarket.BAD);
        D.due("n above", x.sheet(0, 1, MAX), DayMarket.BAD);
        D.due("n below", x.sheet(0, 0, -1), DayMarket.SIZE);
        D.due("n below", x.sheet(0, 1, MIN), DayMarket.SIZE);
        D.due("still MISSING", x.mark(0, 0, 0), DayMarket.NOTHING);
        D.due("24 places", x.sheet(0, 0, 24), 24);
        D.due("a place", x.mark(0, 23, 5), 1);
        D.due("a place", x.mark(0, 0, 6), 1);
        D.due("wrong ones change nothing", x.sheet(0, 1, -1), DayMarket.SIZE);
        D.due("wrong ones change nothing", at(x, 0, 23), 5);
        D.due("anew", x.sheet(0, 0, 24), 24);
        D.due("all 0", at(x, 0, 23), 0);
        D.due("all 0", at(x, 0, 0), 0);
        D.due("0 places", x.sheet(0, 1, 0), 0);
        D.due("no place", x.mark(0, 0, 0), DayMarket.INDEX);
        D.due("MISSING, n any", x.sheet(0, -1, MAX), 0);
        D.due("MISSING, n any", x.sheet(0, -1, MIN), 0);
        D.due("MISSING", x.mark(0, 0, 0), DayMarket.NOTHING);
    }

    private static void mark() {
        DayMarket x = new DayMarket();
        D.due("no sheet", x.mark(4, 0, 0), DayMarket.BAD);
        D.due("no sheet", x.mark(-1, 0, 0), DayMarket.BAD);
        D.due("MISSING", x.mark(0, 99, 0), DayMarket.NOTHING);
        x.sheet(0, 0, 3);
        x.sheet(1, 1, 3);
        for (int bad : new int[] {-1, 3, MIN, MAX}) {
            D.due("no place of shorts", x.mark(0, bad, DayMarket.NONE), DayMarket.INDEX);
            D.due("no place of floats", x.mark(1, bad, MAX), DayMarket.INDEX);
        }
        int[] shorts = {0, 32767, 32768, -32768, 65535, 65536, MAX, MIN, -100001};
        for (int v : shorts) {
            D.due("mark of shorts " + v, x.mark(0, 2, v), 1);
            D.due("its lowest 16 bits " + v, at(x, 0, 2), (short) v);
        }
        D.due("NONE in shorts", x.mark(0, 2, DayMarket.NONE), DayMarket.KIND);
        D.due("it stays", at(x, 0, 2), (short) -100001);
        for (int v : new int[] {0, 99999, -99999, 32768, 5}) {
            D.due("mark of floats " + v, x.mark(1, 0, v), 1);
            D.due("as it is " + v, at(x, 1, 0), v);
        }
        for (int v : new int[] {100000, -100000, MIN, MAX, DayMarket.BAD}) {
            D.due("mark of floats " + v, x.mark(1, 0, v), DayMarket.BAD);
        }
        D.due("it stays", at(x, 1, 0), 5);
        D.due("NO NUMBER", x.mark(1, 0, DayMarket.NONE), 1);
        D.due("NO NUMBER", at(x, 1, 0), DayMarket.KIND);
        D.due("a number again", x.mark(1, 0, -7), 1);
        D.due("a number again", at(x, 1, 0), -7);
    }

    private static void pour() {
        DayMarket x = new DayMarket();
        D.due("no sheet", x.pour(4), DayMarket.BAD);
        D.due("no sheet", x.pour(-1), DayMarket.BAD);
        D.due("MISSING", x.pour(0), DayMarket.NOTHING);
        x.sheet(0, 1, 4);
        x.mark(0, 0, 100);
        x.mark(0, 1, 10000);
        x.mark(0, 2, -1);
        x.mark(0, 3, DayMarket.NONE);
        D.due("pour", x.pour(0), 2);
        int[] due = {100, 9999, 0, 100, 100, 100};
        for (int one = 0; one < 6; one++) {
            D.due("coins of " + one, x.one(one, 0), due[one]);
        }
        D.due("again", x.pour(0), 0);
        x.sheet(1, 0, 24);
        D.due("more places than people", x.pour(1), 5);
        D.due("coins of all", x.ledger(2), 0);
        x.sheet(1, 0, 0);
        D.due("an empty sheet", x.pour(1), 0);
    }

    private static void reads() {
        DayMarket x = new DayMarket();
        D.due("no sheet", x.reads(4), DayMarket.BAD);
        D.due("no sheet", x.reads(-1), DayMarket.BAD);
        D.due("MISSING", x.reads(0), DayMarket.NOTHING);
        x.sheet(0, 1, 0);
        D.due("an empty sheet", x.reads(0), DayMarket.NONE);
        x.sheet(0, 1, 4);
        D.due("no days", x.reads(0), 0);
        x.deal(2);
        x.set(1, 3, 17);
        D.due("not the wear", x.reads(0), 1);
        x.mark(0, 1, 17);
        D.due("no such day", x.reads(0), 2);
        x.mark(0, 2, DayMarket.NONE);
        D.due("numbers alone", x.reads(0), 3);
        x.mark(0, 3, DayMarket.NONE);
        D.due("there is none", x.reads(0), DayMarket.NONE);
        x.mark(0, 0, -1);
        D.due("the first", x.reads(0), 0);
        x.mark(0, 0, DayMarket.NONE);
        D.due("numbers alone", x.reads(0), DayMarket.NONE);
        x.deal(8);
        x.sheet(1, 0, 24);
        x.mark(1, 1, 17);
        D.due("behind the last day", x.reads(1), 10);
    }

    private static void copy() {
        DayMarket x = new DayMarket();
        D.due("no sheet", x.copy(4, 0, 0, 0, 0), DayMarket.BAD);
        D.due("no sheet", x.copy(0, 0, -1, 0, 0), DayMarket.BAD);
        D.due("MISSING", x.copy(0, 0, 0, 0, 0), DayMarket.NOTHING);
        x.sheet(0, 0, 5);
        x.sheet(1, 0, 3);
        x.sheet(2, 1, 5);
        x.sheet(3, -1, 0);
        D.due("MISSING", x.copy(0, 9, 3, 0, 0), DayMarket.NOTHING);
        D.due("MISSING", x.copy(3, 9, 0, 0, 0), DayMarket.NOTHING);
        D.due("not of one sort", x.copy(0, 9, 2, 0, 0), DayMarket.KIND);
        int[][] wrong = {{-1, 0, 1}, {0, -1, 1}, {0, 0, -1}, {5, 0, 1}, {3, 0, 3}, {0, 3, 1}, {0, 2, 2}, {0, 0, 4},
            {6, 0, 0}, {0, 4, 0}, {-1, 0, 0}, {0, -1, 0}, {1, 0, MAX}, {MAX, 0, 1}, {0, MAX, 1}, {MAX, MAX, MAX},
            {0, 0, MIN}, {MIN, 0, 0}, {0, MIN, 1}, {MIN, MIN, MIN}};
        for (int[] w : wrong) {
            D.due("copy(0, " + w[0] + ", 1, " + w[1] + ", " + w[2] + ")", x.copy(0, w[0], 1, w[1], w[2]), DayMarket.INDEX);
        }
        D.due("none, behind the last place", x.copy(0, 5, 1, 3, 0), 0);
        D.due("none", x.copy(0, 0, 1, 0, 0), 0);
        for (int i = 0; i < 5; i++) {
            x.mark(0, i, 10 + i);
            x.mark(2, i, i == 1 ? DayMarket.NONE : 20 + i);
        }
        D.due("to another", x.copy(0, 2, 1, 0, 3), 3);
        row(x, 1, 12, 13, 14);
        row(x, 0, 10, 11, 12, 13, 14);
        D.due("up", x.copy(0, 0, 0, 1, 4), 4);
        row(x, 0, 10, 10, 11, 12, 13);
        D.due("down", x.copy(0, 1, 0, 0, 4), 4);
        row(x, 0, 10, 11, 12, 13, 13);
        D.due("floats", x.copy(2, 0, 2, 2, 3), 3);
        row(x, 2, 20, DayMarket.KIND, 20, DayMarket.KIND, 22);
    }

    private static void row(DayMarket x, int sheet, int... due) {
        for (int i = 0; i < due.length; i++) {
            D.due("sheet " + sheet + " at " + i, at(x, sheet, i), due[i]);
        }
        D.due("no place more", at(x, sheet, due.length), DayMarket.INDEX);
    }

    private static void lay() {
        DayMarket x = new DayMarket();
        for (int bad : new int[] {-1, 5, MIN, MAX}) {
            D.due("no slot", x.lay(bad, 0, 0), DayMarket.BAD);
        }
        for (int bad : new int[] {-1, 4, MIN, MAX}) {
            D.due("no thing", x.lay(0, bad, 0), DayMarket.BAD);
            D.due("no sheet", x.lay(0, 2, bad), DayMarket.BAD);
            D.due("no day", x.lay(0, 1, bad), DayMarket.BAD);
        }
        D.due("no day", x.lay(0, 1, 0), DayMarket.BAD);
        D.due("MISSING", x.lay(0, 2, 0), DayMarket.NOTHING);
        D.due("nothing yet", x.lay(0, 3, MIN), 0);
        x.day(0, 5, 5, 5);
        x.sheet(3, 0, 1);
        D.due("held a number", x.lay(0, 1, 0), 3);
        D.due("MISSING", x.lay(0, 2, 0), DayMarket.NOTHING);
        D.due("it stays", x.ask(0, 0), 5);
        D.due("held a day", x.lay(0, 2, 3), 1);
        D.due("held a sheet", x.lay(0, 0, MIN), 2);
        D.due("held nothing", x.lay(0, 0, 99), 0);
        D.due("slots are apart", x.lay(4, 3, 0), 0);
        D.due("slots are apart", x.rest(0, 1), DayMarket.NOTHING);
        x.keep();
        x.lay(1, 3, 8);
        x.back();
        D.due("an image keeps no slots", x.rest(1, 5), 3);
    }

    private static void ask() {
        DayMarket x = new DayMarket();
        D.due("no slot", x.ask(5, 0), DayMarket.BAD);
        D.due("no slot", x.ask(-1, 0), DayMarket.BAD);
        D.due("no kind", x.ask(0, 6), DayMarket.BAD);
        D.due("no kind", x.ask(0, -1), DayMarket.BAD);
        D.due("nothing", x.ask(0, 0), DayMarket.NOTHING);
        String[] under = {"0", "01", "02", "013", "024", "05"};
        int[] worth = {98, 105, 1, 210, -2, 6};
        x.keep();
        for (int kind = 0; kind < 6; kind++) {
            x.back();
            x.day(kind, 98, 1, 1);
            x.lay(0, 1, 0);
            x.set(0, 1, 3);
            x.turns(0, (kind + 1) % 6);
            for (int as = 0; as < 6; as++) {
                int due = under[kind].indexOf('0' + as) >= 0 ? worth[kind] : DayMarket.KIND;
                D.due("of kind " + kind + " for one of " + as + ", as it was then", x.ask(0, as), due);
            }
        }
        x.sheet(0, 0, 1);
        x.lay(1, 2, 0);
        x.lay(2, 3, 0);
        D.due("a sheet", x.ask(1, 0), DayMarket.KIND);
        D.due("a number", x.ask(2, 0), DayMarket.KIND);
        D.due("BAD stands ahead", x.ask(2, 6), DayMarket.BAD);
    }

    private static void item() {
        DayMarket x = new DayMarket();
        D.due("no slot", x.item(5, 0), DayMarket.BAD);
        D.due("no slot", x.item(-1, 0), DayMarket.BAD);
        D.due("nothing", x.item(0, -1), DayMarket.NOTHING);
        x.day(0, 0, 0, 0);
        x.lay(0, 1, 0);
        x.lay(1, 3, 0);
        D.due("a day", x.item(0, -1), DayMarket.KIND);
        D.due("a number", x.item(1, -1), DayMarket.KIND);
        x.sheet(0, 1, 2);
        x.mark(0, 0, -99999);
        x.mark(0, 1, DayMarket.NONE);
        x.lay(2, 2, 0);
        x.mark(0, 0, 4);
        x.sheet(0, -1, 0);
        D.due("as it was then", x.item(2, 0), -99999);
        D.due("NO NUMBER", x.item(2, 1), DayMarket.KIND);
        for (int bad : new int[] {-1, 2, 24, MIN, MAX}) {
            D.due("no place", x.item(2, bad), DayMarket.INDEX);
        }
    }

    private static void rest() {
        DayMarket x = new DayMarket();
        D.due("no slot", x.rest(5, 0), DayMarket.BAD);
        D.due("no slot", x.rest(-1, 0), DayMarket.BAD);
        D.due("nothing", x.rest(0, 0), DayMarket.NOTHING);
        x.day(0, 0, 0, 0);
        x.sheet(0, 0, 1);
        x.lay(0, 1, 0);
        x.lay(1, 2, 0);
        D.due("a day", x.rest(0, 0), DayMarket.KIND);
        D.due("a sheet", x.rest(1, 0), DayMarket.KIND);
        int[][] rests = {{17, 5, 2}, {-17, 5, -2}, {17, -5, 2}, {-17, -5, -2}, {0, 3, 0}, {MIN, -1, 0}, {MAX, MIN, MAX}, {MIN, MAX, -1}};
        for (int[] r : rests) {
            x.lay(2, 3, r[0]);
            D.due("rest of " + r[0] + " by " + r[1], x.rest(2, r[1]), r[2]);
        }
        D.due("by 0", x.rest(2, 0), DayMarket.NO);
    }
}
