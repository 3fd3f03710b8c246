/** Promises 26 to 30, and part 4 of the document: THE TAPE, TEXTS, FAULT. */
public final class TextsTest {
    private static final Due D = new Due();
    private static final int MIN = Integer.MIN_VALUE, MAX = Integer.MAX_VALUE;

    public static void main(String[] args) {
        feed();
        trim();
        faults();
        faultsOfDepth();
        rightOnes();
        workedOut();
        text();
        textTold();
        why();
        price();
        wear();
        D.end();
    }

    private static void feed() {
        DayMarket x = new DayMarket();
        for (int i = 1; i <= 8; i++) {
            D.due("feed " + i, x.feed(i, -1, MIN), 12 * i);
        }
        D.due("the ninth", x.feed(0, 0, 0), DayMarket.FULL);
        D.due("bytes", x.count(6), 96);
        x.trim(85);
        D.due("one byte too many", x.feed(0, 0, 0), DayMarket.FULL);
        D.due("bytes stay", x.count(6), 85);
        x.trim(84);
        D.due("just enough", x.feed(0, 0, 0), 96);
        DayMarket y = new DayMarket();
        y.feed('f' << 24 | 'i' << 16 | 'n' << 8 | 'e', ' ' << 24 | '1' << 16 | '2' << 8 | '+', '3' << 24 | '0' << 16 | '0' << 8 | ' ');
        D.due("the highest byte first", y.text(), 0);
        D.due("the highest byte first", y.fine(0), 312);
    }

    private static void trim() {
        DayMarket x = new DayMarket();
        D.due("trim of an empty tape", x.trim(0), 0);
        D.due("trim of an empty tape", x.trim(1), DayMarket.BAD);
        x.feed(0, 0, 0);
        D.due("trim above", x.trim(13), DayMarket.BAD);
        D.due("trim below", x.trim(-1), DayMarket.BAD);
        D.due("trim to all", x.trim(12), 12);
        D.due("trim", x.trim(7), 7);
        D.due("bytes", x.count(6), 7);
        D.due("what was cut is gone", x.trim(8), DayMarket.BAD);
        DayMarket y = new DayMarket();
        Due.feed(y, "fine 1234");
        y.trim(7);
        y.text();
        D.due("what was cut is not read", y.fine(0), 12);
        Due.feed(y, "fine c+c");
        y.trim(6);
        y.text();
        D.due("what was cut is not read", y.fine(0), 100);
    }

    private static void fault(String s, int place) {
        DayMarket x = new DayMarket();
        D.due("FAULT of \"" + s + "\"", Due.text(x, s), -100 - place);
        D.due("no text of \"" + s + "\"", x.count(4), 0);
        D.due("the tape is used up by \"" + s + "\"", x.count(6), 0);
    }

    private static void faults() {
        fault("", 0);
        fault("   ", 3);
        fault("price", 5);
        fault("price  ", 7);
        fault("pric t", 0);
        fault("xrice t", 0);
        fault("pricx t", 0);
        fault("price tz", 6);
        fault("price zt", 6);
        fault("price ta", 6);
        fault("price t{", 7);
        fault("price t`", 7);
        fault("price 9/1:", 9);
        fault("  prices t", 2);
        fault("pricet", 0);
        fault("Price t", 0);
        fault("1 price t", 0);
        fault("t", 0);
        fault("(price t)", 0);
        fault("price price", 6);
        fault("price1", 5);
        fault("price 1t", 7);
        fault("price t1", 7);
        fault("price 1 t", 8);
        fault("price tt", 6);
        fault("price x", 6);
        fault("price c", 6);
        fault("price n", 6);
        fault("wear d", 5);
        fault("wear c", 5);
        fault("fine t", 5);
        fault("fine d", 5);
        fault("fine T", 5);
        fault("price 12345", 6);
        fault("price 1234+00001", 11);
        fault("price t+", 8);
        fault("price t+ ", 9);
        fault("price +t", 6);
        fault("price -1", 6);
        fault("price t++1", 8);
        fault("price t*/1", 8);
        fault("price t<1<2", 9);
        fault("price t=1>2", 9);
        fault("price t<1&2=3>4", 13);
        fault("price t<=1", 8);
        fault("price ()", 7);
        fault("price (t", 8);
        fault("price t)", 7);
        fault("price ((t)", 10);
        fault("price (t))", 9);
        fault("price (t<1<2)", 10);
        fault("price !", 7);
        fault("price t!", 7);
        fault("price !+1", 7);
        fault("price t t", 8);
        fault("price t(1)", 7);
        fault("price (1)(2)", 9);
        fault("price (1)2", 9);
        fault("price t&&w", 8);
        fault("price t|", 8);
        fault("price |t", 6);
        fault("price t\0", 7);
        fault("price t\t", 7);
        fault("price\nt", 5);
        fault("price t%2", 7);
        fault("price " + (char) 233, 6);
        fault("price t" + (char) 160, 7);
        fault("price t" + (char) 255, 7);
    }

    private static String many(String s, int n) {
        return s.repeat(n);
    }

    private static void right(String s) {
        DayMarket x = new DayMarket();
        D.due("\"" + s + "\"", Due.text(x, s), 0);
        D.due("the tape is used up by \"" + s + "\"", x.count(6), 0);
    }

    private static void faultsOfDepth() {
        right("price " + many("(", 8) + "t" + many(")", 8));
        fault("price " + many("(", 9) + "t" + many(")", 9), 14);
        right("price " + many("!", 8) + "t");
        fault("price " + many("!", 9) + "t", 14);
        right("price " + many("!", 8) + many("(", 8) + "t" + many(")", 8));
        right("price " + many("!(", 8) + "t" + many(")", 8));
        fault("price " + many("!(", 8) + "!t" + many(")", 8), 22);
        fault("price " + many("(!", 8) + "(t" + many(")", 9), 22);
        right("price " + many("!", 8) + "t+" + many("!", 8) + "t");
        right("price " + many("(", 8) + "t" + many(")", 8) + "+" + many("(", 8) + "t" + many(")", 8));
        right("price !(" + many("!", 7) + "t&" + many("!", 7) + "t)");
        fault("price !(" + many("!", 7) + "t&" + many("!", 8) + "t)", 24);
        right("price !(t)+" + many("!", 8) + "t");
        right("price (" + many("(", 7) + "t" + many(")", 7) + "*" + many("(", 7) + "t" + many(")", 8));
        fault("price (" + many("(", 7) + "t" + many(")", 7) + "*" + many("(", 8) + "t" + many(")", 9), 30);
    }

    private static void rightOnes() {
        right("price t");
        right("  price   t  ");
        right("price(t)");
        right("price!t");
        right("price 0");
        right("price 0000");
        right("price t<1&2=3|w>d");
        right("price (t<1)<2");
        right("price t-w-d*2/3");
        right("wear x+t-w");
        right("fine c/n");
        right("fine " + many("c+", 45) + "c");
        fault("fine " + many("c+", 45) + "c".repeat(0), 95);
        fault("fine  " + many("c+", 45), 96);
    }

    private static void worked(String e, int due) {
        DayMarket x = new DayMarket();
        x.day(0, 0, 0, 1);
        x.day(0, 0, 0, 1);
        Due.text(x, "fine " + e);
        D.due("fine " + e, x.fine(1), due);
    }

    /** Of one with 100 coins and two days. */
    private static void workedOut() {
        worked("7", 7);
        worked("c", 100);
        worked("n", 2);
        worked("2+3*4", 14);
        worked("(2+3)*4", 20);
        worked("20-3-4", 13);
        worked("20-(3-4)", 21);
        worked("100/7/2", 7);
        worked("7*6/4", 10);
        worked("7/4*6", 6);
        worked("0-7/2", -3);
        worked("(0-7)/2", -3);
        worked("c/0", 0);
        worked("1+c/(n-2)", 1);
        worked("1+2<4", 1);
        worked("1+3<4", 0);
        worked("4>3", 1);
        worked("3>3", 0);
        worked("3=3", 1);
        worked("3=4", 0);
        worked("5&6", 1);
        worked("5&0", 0);
        worked("0|9", 1);
        worked("0|0", 0);
        worked("1|0&0", 1);
        worked("(1|0)&0", 0);
        worked("0&0|1", 1);
        worked("2=2&3=3", 1);
        worked("5&6=6", 1);
        worked("1+1&0+0", 0);
        worked("!0", 1);
        worked("!5", 0);
        worked("!!5", 1);
        worked("!0+5", 6);
        worked("!c*5", 0);
        worked("!(c<5)*5", 5);
        worked("0-1&1", 1);
        worked("9999*9999*9999", 9999 * 9999 * 9999);
        worked("0007", 7);
        worked(" c + n ", 102);
        worked("(9999*9999*50)/(0-1)", 9999 * 9999 * 50 / -1);
        worked("(4096*4096*128)/(0-1)", MIN);
        worked("4096*4096*128-1", MAX);
    }

    private static void text() {
        DayMarket x = new DayMarket();
        D.due("an empty tape", x.text(), -100);
        for (int i = 0; i < 14; i++) {
            D.due("text " + i, Due.text(x, "fine " + i), i);
            D.due("texts", x.count(4), i + 1);
        }
        D.due("a fault stands ahead of FULL", Due.text(x, "fine"), -104);
        D.due("the fifteenth", Due.text(x, "fine 77"), DayMarket.FULL);
        D.due("the tape is used up", x.count(6), 0);
        D.due("texts", x.count(4), 14);
        D.due("the last that came counts", x.fine(0), 13);
    }

    private static void textTold() {
        DayMarket x = new DayMarket();
        D.due("no text", x.textTold(0, 0), DayMarket.BAD);
        Due.text(x, "wear (1+x)*!t+0007");
        Due.text(x, "price 5");
        Due.text(x, "fine c+c&c");
        int[][] due = {{1, 4}, {0, 1}, {2, 3}};
        for (int text = 0; text < 3; text++) {
            D.due("KEY of " + text, x.textTold(text, 0), due[text][0]);
            D.due("numbers and names of " + text, x.textTold(text, 1), due[text][1]);
        }
        D.due("no text", x.textTold(3, 0), DayMarket.BAD);
        D.due("no text", x.textTold(-1, 0), DayMarket.BAD);
        D.due("no what", x.textTold(0, 2), DayMarket.BAD);
        D.due("no what", x.textTold(0, -1), DayMarket.BAD);
    }

    private static void why() {
        DayMarket x = new DayMarket();
        D.due("why of no key", x.why(3), DayMarket.BAD);
        D.due("why of no key", x.why(-1), DayMarket.BAD);
        Due.text(x, "wear 1");
        D.due("price", x.why(0), DayMarket.NONE);
        D.due("wear", x.why(1), 0);
        Due.text(x, "fine 1");
        Due.text(x, "wear 2");
        Due.text(x, "wear");
        D.due("told last", x.why(1), 2);
        D.due("fine", x.why(2), 1);
        x.keep();
        Due.text(x, "price 1");
        Due.text(x, "fine 33");
        D.due("price", x.why(0), 3);
        x.back();
        D.due("as the image: price", x.why(0), DayMarket.NONE);
        D.due("as the image: fine", x.why(2), 1);
        D.due("as the image: fine", x.fine(0), 1);
        D.due("as the image: texts", x.count(4), 3);
        D.due("as the image: no text", x.textTold(3, 0), DayMarket.BAD);
        D.due("its number again", Due.text(x, "price 9"), 3);
        x.back();
        Due.text(x, "fine !9");
        x.back();
        Due.text(x, "fine 5");
        D.due("nothing is left of what had its number", x.fine(0), 5);
    }

    private static void price() {
        DayMarket x = new DayMarket();
        for (int kind = 0; kind < 6; kind++) {
            x.day(kind, 30 + kind, 2, 0);
            x.set(kind, 3, 5);
        }
        Due.text(x, "price t*100+w*10+d");
        int[] due = {280, 301, 782, 303 / 2, 779, 5};
        for (int kind = 0; kind < 6; kind++) {
            D.due("t w d of kind " + kind, x.told(kind, 6), due[kind]);
        }
        Due.text(x, "price 9999");
        int[] high = {999, 1019, 999, 509, 994, 5};
        for (int kind = 0; kind < 6; kind++) {
            D.due("999 at most for kind " + kind, x.told(kind, 6), high[kind]);
        }
        Due.text(x, "price 0-1");
        int[] low = {0, 20, 0, 10, 0, 5};
        for (int kind = 0; kind < 6; kind++) {
            D.due("0 at least for kind " + kind, x.told(kind, 6), low[kind]);
        }
        D.due("VALUE of all", x.count(3), 35);
        Due.text(x, "price 50");
        D.due("OFFER by a text", x.offer(5, 0), 35);
        D.due("fill by a text", x.fill(5, 2), 50 + 35 + 5);
    }

    private static void wear() {
        DayMarket x = new DayMarket();
        for (int kind = 0; kind < 6; kind++) {
            x.day(kind, 30, 2, 0);
        }
        Due.text(x, "wear t*2+w+100*(x>9)");
        x.markets(2);
        for (int kind = 0; kind < 6; kind++) {
            D.due("TONE as it is, for kind " + kind, x.told(kind, 3), 12);
        }
        Due.text(x, "wear 21");
        x.markets(1);
        D.due("20 at most", x.told(0, 3), 32);
        Due.text(x, "wear 0-5");
        x.markets(1);
        D.due("0 at least", x.told(0, 3), 32);
        Due.text(x, "wear x");
        int z = x.count(7);
        x.markets(1);
        for (int day = 0; day < 6; day++) {
            z = z * 1103515245 + 12345;
            D.due("x", x.told(day, 3), 32 + (z >>> 8) % 10);
        }
        Due.text(x, "wear 20");
        x.markets(4);
        D.due("99 at most", x.told(0, 3), 99);
    }
}
