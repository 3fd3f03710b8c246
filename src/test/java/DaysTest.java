/** Promises 1 to 11: a new object, days, people. */
public final class DaysTest {
    private static final Due D = new Due();
    private static final int MIN = Integer.MIN_VALUE, MAX = Integer.MAX_VALUE;

    public static void main(String[] args) {
        newObject();
        day();
        told();
        as();
        turns();
        set();
        one();
        gives();
        offer();
        deal();
        seed();
        D.end();
    }

    private static void newObject() {
        DayMarket x = new DayMarket();
        int[] counts = {0, 0, 0, 0, 0, 0, 0, 1};
        for (int what = 0; what < counts.length; what++) {
            D.due("new: count(" + what + ")", x.count(what), counts[what]);
        }
        for (int one = 0; one < 6; one++) {
            D.due("new: one(" + one + ", 0)", x.one(one, 0), 100);
            D.due("new: one(" + one + ", 1)", x.one(one, 1), one);
            D.due("new: one(" + one + ", 2)", x.one(one, 2), 0);
        }
        D.due("new: SALES", x.ledger(0), 0);
        D.due("new: LOST", x.ledger(1), 0);
        D.due("new: COINS of all", x.ledger(2), 600);
        for (int sheet = 0; sheet < 4; sheet++) {
            D.due("new: reads", x.reads(sheet), DayMarket.NOTHING);
        }
        for (int slot = 0; slot < 5; slot++) {
            D.due("new: rest", x.rest(slot, 1), DayMarket.NOTHING);
        }
        for (int key = 0; key < 3; key++) {
            D.due("new: why", x.why(key), DayMarket.NONE);
        }
        D.due("new: back", x.back(), DayMarket.NO);
        DayMarket y = new DayMarket();
        x.day(0, 1, 1, 1);
        D.due("objects are apart", y.count(0), 0);
    }

    private static void day() {
        DayMarket x = new DayMarket();
        int[][] wrong = {{-1, 0, 0, 0}, {6, 0, 0, 0}, {0, -1, 0, 0}, {0, 100, 0, 0}, {0, 0, -1, 0}, {0, 0, 10, 0},
            {0, 0, 0, -1}, {0, 0, 0, 6}, {MIN, 0, 0, 0}, {0, MAX, 0, 0}, {0, 0, MIN, 0}, {0, 0, 0, MAX}};
        for (int[] w : wrong) {
            D.due("day wrong", x.day(w[0], w[1], w[2], w[3]), DayMarket.BAD);
        }
        D.due("days after wrong ones", x.count(0), 0);
        for (int i = 0; i < 10; i++) {
            D.due("day " + i, x.day(i % 6, 99 - i, 9 - i, i % 6), i);
        }
        D.due("the eleventh", x.day(0, 0, 0, 0), DayMarket.FULL);
        D.due("BAD stands ahead of FULL", x.day(6, 0, 0, 0), DayMarket.BAD);
        D.due("ten days", x.count(0), 10);
        D.due("draws none", x.count(7), 1);
        D.due("date of the last", x.told(9, 1), 90);
    }

    private static void told() {
        DayMarket x = new DayMarket();
        D.due("told without days", x.told(0, 0), DayMarket.BAD);
        for (int kind = 0; kind < 6; kind++) {
            x.day(kind, 98, 3, kind);
            x.set(kind, 3, 4);
        }
        int[] value = {26, 46, 56, 23, 52, 5};
        int[] worth = {98, 105, 1, 210, -2, 6};
        for (int kind = 0; kind < 6; kind++) {
            int[] due = {kind, 98, 3, 4, kind, 1 << kind, value[kind], worth[kind]};
            for (int what = 0; what < 8; what++) {
                D.due("told(" + kind + ", " + what + ")", x.told(kind, what), due[what]);
            }
            x.set(kind, 3, 99);
        }
        int[] wornValue = {0, 20, 0, 10, 0, 5};
        for (int kind = 0; kind < 6; kind++) {
            D.due("VALUE of a worn one of kind " + kind, x.told(kind, 6), wornValue[kind]);
        }
        x.set(3, 3, 5);
        D.due("half is cut", x.told(3, 6), 22);
        x.set(0, 1, 0);
        D.due("WORTH of DATE 0", x.told(0, 7), 0);
        for (int bad : new int[] {-1, 6, 10, MIN, MAX}) {
            D.due("told of no day", x.told(bad, 0), DayMarket.BAD);
        }
        for (int bad : new int[] {-1, 8, MIN, MAX}) {
            D.due("told of no what", x.told(0, bad), DayMarket.BAD);
        }
    }

    private static void as() {
        String[] under = {"0", "01", "02", "013", "024", "05"};
        DayMarket x = new DayMarket();
        for (int kind = 0; kind < 6; kind++) {
            x.day(kind, 40 + kind, 0, 0);
        }
        for (int day = 0; day < 6; day++) {
            for (int kind = 0; kind < 6; kind++) {
                int due = under[day].indexOf('0' + kind) >= 0 ? 40 + day : DayMarket.KIND;
                D.due("as(" + day + ", " + kind + ")", x.as(day, kind), due);
            }
        }
        D.due("as of no day", x.as(6, 0), DayMarket.BAD);
        D.due("as of no day", x.as(-1, 0), DayMarket.BAD);
        D.due("as of no kind", x.as(0, 6), DayMarket.BAD);
        D.due("as of no kind", x.as(0, -1), DayMarket.BAD);
    }

    private static void turns() {
        DayMarket x = new DayMarket();
        x.day(2, 10, 8, 3);
        D.due("turns", x.turns(0, 3), 2);
        D.due("KIND then", x.told(0, 0), 3);
        D.due("WORTH then", x.told(0, 7), 34);
        D.due("VALUE then", x.told(0, 6), 50);
        D.due("as then", x.as(0, 1), 10);
        D.due("turns into the same", x.turns(0, 3), 3);
        D.due("turns of no kind", x.turns(0, 6), DayMarket.BAD);
        D.due("turns of no kind", x.turns(0, -1), DayMarket.BAD);
        D.due("turns of no day", x.turns(1, 0), DayMarket.BAD);
        D.due("KIND stays", x.told(0, 0), 3);
        D.due("OWNER stays", x.told(0, 4), 3);
    }

    private static void set() {
        DayMarket x = new DayMarket();
        x.day(0, 10, 5, 3);
        int[] most = {0, 99, 9, 99};
        int[] was = {0, 10, 5, 0};
        for (int what = 1; what <= 3; what++) {
            D.due("set " + what, x.set(0, what, most[what]), was[what]);
            D.due("told then", x.told(0, what), most[what]);
            D.due("set above", x.set(0, what, most[what] + 1), DayMarket.BAD);
            D.due("set below", x.set(0, what, -1), DayMarket.BAD);
            D.due("told stays", x.told(0, what), most[what]);
            D.due("set to 0", x.set(0, what, 0), most[what]);
        }
        for (int what : new int[] {0, 4, 5, -1, MIN, MAX}) {
            D.due("set of no what", x.set(0, what, 0), DayMarket.BAD);
        }
        D.due("set of no day", x.set(1, 1, 0), DayMarket.BAD);
        D.due("set of no day", x.set(-1, 1, 0), DayMarket.BAD);
    }

    private static void one() {
        DayMarket x = new DayMarket();
        for (int i = 0; i < 10; i++) {
            x.day(0, i, 0, i % 3);
        }
        D.due("days of 0", x.one(0, 2), 1 | 8 | 64 | 512);
        D.due("days of 1", x.one(1, 2), 2 | 16 | 128);
        D.due("days of 3", x.one(3, 2), 0);
        x.sale(0, 3, 7);
        D.due("days of 0 behind a sale", x.one(0, 2), 8 | 64 | 512);
        D.due("days of 3 behind a sale", x.one(3, 2), 1);
        D.due("coins of 3 behind a sale", x.one(3, 0), 93);
        for (int bad : new int[] {-1, 6, MIN, MAX}) {
            D.due("one of nobody", x.one(bad, 0), DayMarket.BAD);
        }
        for (int bad : new int[] {-1, 3, MIN, MAX}) {
            D.due("one of no what", x.one(0, bad), DayMarket.BAD);
        }
    }

    private static void gives() {
        DayMarket x = new DayMarket();
        D.due("gives coins", x.gives(2, 0, 9999), 100);
        D.due("coins then", x.one(2, 0), 9999);
        D.due("gives 0", x.gives(2, 0, 0), 9999);
        D.due("gives too many", x.gives(2, 0, 10000), DayMarket.BAD);
        D.due("gives too few", x.gives(2, 0, -1), DayMarket.BAD);
        D.due("coins stay", x.one(2, 0), 0);
        D.due("gives a wish", x.gives(2, 1, 9), 2);
        D.due("wish then", x.one(2, 1), 9);
        D.due("gives no wish", x.gives(2, 1, 10), DayMarket.BAD);
        D.due("gives no wish", x.gives(2, 1, -1), DayMarket.BAD);
        D.due("wish stays", x.one(2, 1), 9);
        D.due("gives of no what", x.gives(2, 2, 0), DayMarket.BAD);
        D.due("gives of no what", x.gives(2, -1, 0), DayMarket.BAD);
        D.due("gives to nobody", x.gives(6, 0, 0), DayMarket.BAD);
        D.due("gives to nobody", x.gives(-1, 0, 0), DayMarket.BAD);
        D.due("coins of all", x.ledger(2), 500);
    }

    private static void offer() {
        DayMarket x = new DayMarket();
        x.day(2, 1, 1, 0);
        D.due("TONE as told, not as dyed", x.offer(1, 0), 80);
        D.due("by how much they differ", x.offer(5, 0), 60);
        D.due("of the owner", x.offer(0, 0), 75);
        x.gives(1, 0, 79);
        x.gives(0, 0, 0);
        D.due("COINS at most", x.offer(1, 0), 79);
        D.due("of the owner whatever his coins are", x.offer(0, 0), 75);
        x.day(5, 1, 9, 0);
        D.due("0 at least", x.offer(0, 1), 0);
        D.due("0 at least", x.offer(5, 1), 0);
        x.gives(5, 1, 9);
        D.due("DREAMT for one who wishes it", x.offer(5, 1), 5);
        D.due("offer of nobody", x.offer(6, 0), DayMarket.BAD);
        D.due("offer of nobody", x.offer(-1, 0), DayMarket.BAD);
        D.due("offer for no day", x.offer(0, 2), DayMarket.BAD);
        D.due("offer for no day", x.offer(0, -1), DayMarket.BAD);
    }

    private static void deal() {
        DayMarket x = new DayMarket();
        for (int bad : new int[] {0, -1, 11, MIN, MAX}) {
            D.due("deal wrong", x.deal(bad), DayMarket.BAD);
        }
        D.due("deal", x.deal(2), 2);
        int z = 1;
        int[] by = {6, 100, 10, 6};
        int[] what = {0, 1, 2, 4};
        for (int day = 0; day < 2; day++) {
            for (int i = 0; i < 4; i++) {
                z = z * 1103515245 + 12345;
                D.due("drawn " + day + ", " + what[i], x.told(day, what[i]), (z >>> 8) % by[i]);
            }
            D.due("WEAR of a drawn one", x.told(day, 3), 0);
            D.due("HAD of a drawn one", x.told(day, 5), 1 << x.told(day, 4));
        }
        D.due("z then", x.count(7), z);
        D.due("deal beyond the room", x.deal(9), 8);
        z = x.count(7);
        D.due("deal without room", x.deal(1), 0);
        D.due("no draws without room", x.count(7), z);
    }

    private static void seed() {
        DayMarket x = new DayMarket();
        D.due("seed", x.seed(MIN), 1);
        D.due("seed again", x.seed(-5), MIN);
        D.due("z", x.count(7), -5);
        x.deal(1);
        D.due("z behind four draws", x.count(7), behindDraws(-5, 4));
        D.due("a draw of a z below 0", x.told(0, 0), (behindDraws(-5, 1) >>> 8) % 6);
    }

    private static int behindDraws(int z, int n) {
        return n == 0 ? z : behindDraws(z * 1103515245 + 12345, n - 1);
    }
}
