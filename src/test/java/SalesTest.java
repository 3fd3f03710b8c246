/** Promises 12 to 17: sales, markets, what can be true, a life. */
public final class SalesTest {
    private static final Due D = new Due();
    private static final int MIN = Integer.MIN_VALUE, MAX = Integer.MAX_VALUE;

    public static void main(String[] args) {
        sale();
        markets();
        marketsUpTo9999();
        ledger();
        isTrue();
        falseMany();
        fill();
        fillOfSeveral();
        D.end();
    }

    private static void sale() {
        DayMarket x = new DayMarket();
        x.day(0, 1, 1, 0);
        D.due("sale of no day", x.sale(1, 1, 0), DayMarket.BAD);
        D.due("sale of no day", x.sale(-1, 1, 0), DayMarket.BAD);
        D.due("sale to nobody", x.sale(0, 6, 0), DayMarket.BAD);
        D.due("sale to nobody", x.sale(0, -1, 0), DayMarket.BAD);
        D.due("sale for too much", x.sale(0, 1, 10000), DayMarket.BAD);
        D.due("sale for too little", x.sale(0, 1, -1), DayMarket.BAD);
        D.due("BAD stands ahead of NO", x.sale(0, 0, 10000), DayMarket.BAD);
        D.due("sale to the owner", x.sale(0, 0, 0), DayMarket.NO);
        D.due("sale to one who has less", x.sale(0, 1, 101), DayMarket.NO);
        D.due("nothing was sold", x.ledger(0), 0);
        D.due("sale for all coins", x.sale(0, 1, 100), 1);
        D.due("coins of the buyer", x.one(1, 0), 0);
        D.due("coins of the seller", x.one(0, 0), 200);
        D.due("owner", x.told(0, 4), 1);
        D.due("had", x.told(0, 5), 3);
        D.due("sale for 0", x.sale(0, 5, 0), 2);
        D.due("had", x.told(0, 5), 35);
        x.gives(5, 0, 9990);
        x.gives(0, 0, 30);
        D.due("sale to one who had it", x.sale(0, 0, 30), 3);
        D.due("9999 at most", x.one(5, 0), 9999);
        D.due("what is above is lost", x.ledger(1), 21);
        D.due("had", x.told(0, 5), 35);
        D.due("WEAR stays", x.told(0, 3), 0);
        D.due("z stays", x.count(7), 1);
    }

    /** Two days worked through by hand: draws of z = 1 by 10, then sales. */
    private static void markets() {
        DayMarket x = new DayMarket();
        for (int bad : new int[] {0, -1, 101, MIN, MAX}) {
            D.due("markets wrong", x.markets(bad), DayMarket.BAD);
        }
        x.day(0, 1, 3, 0);
        x.day(0, 1, 3, 3);
        int z = 1103527590;
        int x0 = (z >>> 8) % 10;
        z = z * 1103515245 + 12345;
        int x1 = (z >>> 8) % 10;
        D.due("markets", x.markets(1), 1);
        D.due("z", x.count(7), z);
        D.due("wear", x.told(0, 3), x0 / 3);
        D.due("wear", x.told(1, 3), x1 / 3);
        D.due("sold to whoever offers most", x.told(0, 4), 3);
        D.due("coins", x.one(3, 0), 100 - (30 - x0 / 3));
        D.due("stays with the owner who offers most", x.told(1, 4), 3);
        D.due("THE MARKET", x.count(1), 1);

        DayMarket y = new DayMarket();
        Due.text(y, "wear 0");
        y.day(0, 1, 3, 0);
        y.gives(2, 1, 4);
        y.gives(3, 1, 4);
        y.gives(4, 1, 4);
        D.due("of several the least", y.markets(1), 1);
        D.due("of several the least", y.told(0, 4), 2);
        D.due("not above the owner's offer: no sale", y.markets(1), 0);
        D.due("owner", y.told(0, 4), 2);
        D.due("markets without days count", new DayMarket().markets(100), 0);

        DayMarket w = new DayMarket();
        w.day(0, 1, 3, 0);
        w.set(0, 3, 98);
        Due.text(w, "wear 5");
        w.markets(1);
        D.due("WEAR is 99 at most", w.told(0, 3), 99);

        DayMarket p = new DayMarket();
        p.day(0, 1, 9, 0);
        for (int one = 1; one < 6; one++) {
            p.gives(one, 0, 10 + one);
            p.gives(one, 1, 9);
        }
        Due.text(p, "wear 0");
        D.due("offers are COINS at most: the owner's is above", p.markets(1), 0);
        p.gives(0, 0, 0);
        p.gives(4, 0, 46);
        D.due("one above the owner's", p.markets(1), 1);
        D.due("for its offer", p.one(0, 0), 46);
        D.due("for its offer", p.one(4, 0), 0);
    }

    private static void marketsUpTo9999() {
        DayMarket x = new DayMarket();
        x.day(0, 1, 3, 0);
        for (int i = 0; i < 99; i++) {
            x.markets(100);
        }
        D.due("THE MARKET", x.count(1), 9900);
        D.due("check of an image below 9999", x.keep(), 1);
        x.markets(98);
        D.due("THE MARKET", x.count(1), 9998);
        int z = x.count(7);
        D.due("markets", x.markets(5), 0);
        D.due("THE MARKET is 9999 at most", x.count(1), 9999);
        D.due("one market's draw", x.count(7), z * 1103515245 + 12345);
        z = x.count(7);
        D.due("no market more", x.markets(1), 0);
        D.due("THE MARKET", x.count(1), 9999);
        D.due("no draw more", x.count(7), z);
        x.set(0, 3, 0);
        D.due("thought goes on without the bound", x.behind(0, 100, 1) < 30 ? 1 : 0, 1);
        D.due("an image at the bound", x.keep(), 1);
        D.due("none told is right then", x.check(30), 0);
        x.tell(0);
        D.due("one told is one too many then", x.check(30), 1);
    }

    private static void ledger() {
        DayMarket x = new DayMarket();
        x.day(0, 1, 1, 0);
        x.gives(0, 0, 9999);
        x.sale(0, 1, 60);
        D.due("SALES", x.ledger(0), 1);
        D.due("LOST", x.ledger(1), 60);
        D.due("COINS of all", x.ledger(2), 9999 + 400 + 40);
        x.sale(0, 0, 0);
        x.sale(0, 2, 7);
        D.due("LOST grows", x.ledger(1), 67);
        D.due("SALES grow", x.ledger(0), 3);
        for (int bad : new int[] {-1, 3, MIN, MAX}) {
            D.due("ledger wrong", x.ledger(bad), DayMarket.BAD);
        }
    }

    private static void isTrue() {
        DayMarket x = new DayMarket();
        x.day(0, 0, 7, 0);
        x.day(1, 0, 7, 0);
        x.day(2, 0, 2, 0);
        x.day(3, 99, 9, 0);
        x.day(4, 99, 0, 0);
        D.due("most", x.isTrue(0), 7);
        D.due("of several the least", x.isTrue(99), 0);
        D.due("no day has it", x.isTrue(50), DayMarket.NONE);
        D.due("isTrue wrong", x.isTrue(100), DayMarket.BAD);
        D.due("isTrue wrong", x.isTrue(-1), DayMarket.BAD);
        x.set(4, 1, 98);
        D.due("the only one", x.isTrue(99), 9);
        D.due("the only one", x.isTrue(98), 0);
    }

    private static void falseMany() {
        DayMarket x = new DayMarket();
        D.due("without days", x.falseMany(), 0);
        int[] tones = {7, 7, 2, 3, 7};
        for (int tone : tones) {
            x.day(0, 5, tone, 0);
        }
        D.due("two are left out", x.falseMany(), 2);
        x.day(0, 6, 1, 0);
        D.due("another date", x.falseMany(), 2);
        x.day(0, 6, 2, 0);
        x.day(0, 6, 2, 0);
        x.day(0, 6, 1, 0);
        D.due("two and two", x.falseMany(), 4);
        x.set(0, 1, 7);
        D.due("behind set", x.falseMany(), 4);
        x.set(1, 2, 2);
        D.due("behind set", x.falseMany(), 4);
        x.set(4, 2, 2);
        D.due("behind set", x.falseMany(), 3);
        DayMarket y = new DayMarket();
        y.day(0, 5, 9, 0);
        y.day(0, 5, 1, 0);
        D.due("the first one is false", y.falseMany(), 1);
    }

    private static void fill() {
        DayMarket x = new DayMarket();
        D.due("without days", x.fill(0, 0), 0);
        D.due("without days", x.fill(0, 1), 0);
        x.day(0, 1, 4, 0);
        x.day(0, 1, 5, 1);
        x.day(0, 2, 1, 1);
        x.day(5, 3, 9, 2);
        x.gives(3, 1, 5);
        D.due("unlike dates", x.fill(3, 0), 2 | 4 | 8);
        D.due("joy", x.fill(3, 1), 10 + 6 + 6);
        D.due("values", x.fill(3, 2), 65);
        x.gives(3, 0, 65);
        D.due("just enough", x.fill(3, 0), 2 | 4 | 8);
        x.gives(3, 0, 64);
        D.due("one too little", x.fill(3, 0), 1 | 4 | 8);
        x.gives(3, 0, 0);
        D.due("nothing", x.fill(3, 0), 0);
        D.due("nothing", x.fill(3, 2), 0);
        D.due("days of others alone", x.fill(1, 0), 1 | 8);
        D.due("days of others alone", x.fill(1, 2), 45);
        for (int bad : new int[] {-1, 6, MIN, MAX}) {
            D.due("fill of nobody", x.fill(bad, 0), DayMarket.BAD);
        }
        for (int bad : new int[] {-1, 3, MIN, MAX}) {
            D.due("fill of no what", x.fill(0, bad), DayMarket.BAD);
        }
        D.due("nothing changed", x.ledger(2), 500);
        DayMarket y = new DayMarket();
        y.day(5, 1, 4, 0);
        y.day(5, 1, 4, 1);
        y.day(5, 1, 4, 1);
        y.gives(4, 0, 9999);
        D.due("one of three with one date", y.fill(4, 0), 1);
        D.due("the first is its own", y.fill(0, 0), 2);
        D.due("the last two are its own", y.fill(1, 0), 1);
        y.sale(2, 0, 0);
        D.due("the first and the last are its own", y.fill(0, 0), 2);
    }

    private static void fillOfSeveral() {
        DayMarket x = new DayMarket();
        x.day(5, 1, 4, 0);
        x.day(5, 2, 9, 0);
        x.day(5, 3, 8, 0);
        x.day(5, 4, 4, 0);
        x.gives(5, 1, 4);
        x.gives(5, 0, 5);
        D.due("of several the least as bits", x.fill(5, 0), 1);
        DayMarket w = new DayMarket();
        w.day(5, 1, 9, 1);
        D.due("the least joy is more than none", w.fill(0, 0), 1);
        D.due("the least joy", w.fill(0, 1), 1);
        DayMarket y = new DayMarket();
        y.day(0, 1, 1, 0);
        y.day(0, 2, 1, 0);
        y.day(0, 3, 9, 0);
        Due.text(y, "price (t<5)*10+(t>5)*20");
        y.gives(5, 1, 9);
        y.gives(5, 0, 20);
        D.due("the greatest joy", y.fill(5, 0), 4);
        y.gives(5, 1, 5);
        D.due("two of joy 6 each", y.fill(5, 0), 3);
        DayMarket z = new DayMarket();
        z.day(0, 1, 0, 0);
        z.day(0, 2, 0, 0);
        z.day(0, 3, 5, 0);
        Due.text(z, "price (t<3)*10+(t>3)*20");
        z.gives(5, 0, 20);
        D.due("of several the fewest days", z.fill(5, 0), 4);
        D.due("their joy is alike", z.fill(5, 1), 10);
    }
}
