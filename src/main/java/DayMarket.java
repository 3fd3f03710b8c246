/** A market of second hand days; the promises are told in the project's document. */
public final class DayMarket {
    public static final int BAD = -1000000001, NO = -1000000002, FULL = -1000000003, NONE = -1000000005, NOTHING = -1000000011, KIND = -1000000012, INDEX = -1000000013, SIZE = -1000000014;

    private static final int PEOPLE = 6;
    private static final int MOST_DAYS = 10;
    private static final int MOST_DATE = 99;
    private static final int MOST_TONE = 9;
    private static final int MOST_WEAR = 99;
    private static final int MOST_COINS = 9999;
    private static final int MOST_MARKETS = 9999;
    private static final int MOST_VALUE = 999;
    private static final int MOST_WEAR_AT_ONCE = 20;
    private static final int MOST_THOUGHT = 100;
    private static final int MOST_TRIED = 60;
    private static final int MOST_TILL_WORN = 200;
    private static final int MOST_CHECKED = 30;

    private static final int DAY = 0;
    private static final int MENDED = 1;
    private static final int DYED = 2;
    private static final int PATCHED = 3;
    private static final int FADED = 4;
    private static final int DREAMT = 5;
    private static final int KINDS = 6;
    /** For each KIND the one that it stands under. */
    private static final int[] ABOVE = {-1, DAY, DAY, MENDED, DYED, DAY};

    private static final int MOST_TEXTS = 14;
    private static final int MOST_BYTES = 96;
    private static final int BYTES_A_FEED = 12;
    private static final int MOST_OPEN = 8;
    private static final int MOST_DIGITS = 4;
    private static final int FAULT_AT_0 = -100;
    private static final int KEYS = 3;
    private static final int PRICE = 0;
    private static final int WEAR = 1;
    private static final int FINE = 2;
    /** The steps of NAMES are -1 down to this one, below all NUMBERS and above all signs. */
    private static final int LAST_NAME = -3;

    private static final int SHEETS = 4;
    private static final int MOST_PLACES = 24;
    private static final int MISSING = -1;
    private static final int SHORTS = 0;
    private static final int FLOATS = 1;
    private static final int MOST_FLOAT = 99999;
    private static final int SLOTS = 5;
    private static final int HOLDS_NOTHING = 0;
    private static final int HOLDS_DAY = 1;
    private static final int HOLDS_SHEET = 2;
    private static final int HOLDS_NUMBER = 3;
    private static final int MOST_WAITING = 60;

    private final Laws laws;
    private final Reader reader;
    private final World now;
    private final World image;
    private final World thought;
    private final Life life;
    private final int[] differences;
    private final Row[] sheets;
    private final Slot[] slots;
    private final int[] waiting;
    private int waits;
    private boolean kept;

    public DayMarket() {
        laws = new Laws();
        reader = new Reader();
        now = new World(laws);
        image = new World(laws);
        thought = new World(laws);
        life = new Life();
        differences = new int[MOST_DAYS];
        sheets = new Row[SHEETS];
        for (int sheet = 0; sheet < SHEETS; sheet++) {
            sheets[sheet] = new Row();
        }
        slots = new Slot[SLOTS];
        for (int slot = 0; slot < SLOTS; slot++) {
            slots[slot] = new Slot();
        }
        waiting = new int[MOST_WAITING];
        waits = 0;
        kept = false;
    }

    // ---- days, people

    public int day(int kind, int date, int tone, int owner) {
        if (!isKind(kind) || !within(date, 0, MOST_DATE) || !within(tone, 0, MOST_TONE) || !isOne(owner)) {
            return BAD;
        }
        if (now.days >= MOST_DAYS) {
            return FULL;
        }
        return now.addDay(kind, date, tone, owner);
    }

    public int told(int day, int what) {
        if (!isDay(day)) {
            return BAD;
        }
        switch (what) {
            case 0: return now.kind[day];
            case 1: return now.date[day];
            case 2: return now.tone[day];
            case 3: return now.wear[day];
            case 4: return now.owner[day];
            case 5: return now.had[day];
            case 6: return now.valueOf(day);
            case 7: return worthOf(now.kind[day], now.date[day]);
            default: return BAD;
        }
    }

    public int as(int day, int kind) {
        if (!isDay(day) || !isKind(kind)) {
            return BAD;
        }
        return isUnder(now.kind[day], kind) ? now.date[day] : KIND;
    }

    public int turns(int day, int kind) {
        if (!isDay(day) || !isKind(kind)) {
            return BAD;
        }
        return exchange(now.kind, day, kind);
    }

    public int set(int day, int what, int v) {
        if (!isDay(day)) {
            return BAD;
        }
        switch (what) {
            case 1: return within(v, 0, MOST_DATE) ? exchange(now.date, day, v) : BAD;
            case 2: return within(v, 0, MOST_TONE) ? exchange(now.tone, day, v) : BAD;
            case 3: return within(v, 0, MOST_WEAR) ? exchange(now.wear, day, v) : BAD;
            default: return BAD;
        }
    }

    public int one(int one, int what) {
        if (!isOne(one)) {
            return BAD;
        }
        switch (what) {
            case 0: return now.coins[one];
            case 1: return now.wish[one];
            case 2: return now.daysOf(one);
            default: return BAD;
        }
    }

    public int gives(int one, int what, int v) {
        if (!isOne(one)) {
            return BAD;
        }
        switch (what) {
            case 0: return within(v, 0, MOST_COINS) ? exchange(now.coins, one, v) : BAD;
            case 1: return within(v, 0, MOST_TONE) ? exchange(now.wish, one, v) : BAD;
            default: return BAD;
        }
    }

    public int offer(int one, int day) {
        if (!isOne(one) || !isDay(day)) {
            return BAD;
        }
        return now.bidOf(one, day, now.valueOf(day));
    }

    public int deal(int n) {
        if (!within(n, 1, MOST_DAYS)) {
            return BAD;
        }
        int came = Math.min(n, MOST_DAYS - now.days);
        for (int i = 0; i < came; i++) {
            now.drawDay();
        }
        return came;
    }

    public int seed(int v) {
        int was = now.z;
        now.z = v;
        return was;
    }

    // ---- sales, markets

    public int sale(int day, int to, int coins) {
        if (!isDay(day) || !isOne(to) || !within(coins, 0, MOST_COINS)) {
            return BAD;
        }
        if (now.owner[day] == to || now.coins[to] < coins) {
            return NO;
        }
        now.sell(day, to, coins);
        return now.sales;
    }

    public int markets(int n) {
        if (!within(n, 1, MOST_THOUGHT)) {
            return BAD;
        }
        int before = now.sales;
        now.goOn(now.marketsLeft(n));
        return now.sales - before;
    }

    public int ledger(int what) {
        switch (what) {
            case 0: return now.sales;
            case 1: return now.lost;
            case 2: return now.allCoins();
            default: return BAD;
        }
    }

    // ---- what can be true, a life

    public int isTrue(int date) {
        if (!within(date, 0, MOST_DATE)) {
            return BAD;
        }
        int tone = now.trueTone(date);
        return now.howMany(date, tone) == 0 ? NONE : tone;
    }

    public int falseMany() {
        return now.falseDays();
    }

    public int fill(int one, int what) {
        if (!isOne(one) || !within(what, 0, 2)) {
            return BAD;
        }
        life.lookAt(now, one);
        int set = life.bestSet(now.days, now.coins[one]);
        switch (what) {
            case 1: return sumOver(life.joy, set);
            case 2: return sumOver(life.value, set);
            default: return set;
        }
    }

    // ---- what will be

    public int emptied(int one) {
        if (!isOne(one)) {
            return BAD;
        }
        thought.become(now);
        for (int day = 0; day < now.days; day++) {
            if (now.owner[day] == one) {
                int value = thought.valueOf(day);
                int to = thought.bestBidder(day, value);
                thought.sell(day, to, thought.bidOf(to, day, value));
            }
        }
        return thought.coins[one] - now.coins[one];
    }

    public int behind(int day, int n, int what) {
        if (!isDay(day) || !within(n, 0, MOST_THOUGHT) || !within(what, 0, 4)) {
            return BAD;
        }
        thought.become(now);
        thought.goOn(n);
        switch (what) {
            case 0: return thought.owner[day];
            case 1: return thought.valueOf(day);
            case 2: return thought.allCoins();
            case 3: return thought.sales;
            default: return thought.lost;
        }
    }

    public int richest(int n, int what) {
        if (!within(n, 0, MOST_THOUGHT) || !within(what, 0, 1)) {
            return BAD;
        }
        thought.become(now);
        thought.goOn(n);
        int who = 0;
        for (int one = 1; one < PEOPLE; one++) {
            if (thought.coins[one] > thought.coins[who]) {
                who = one;
            }
        }
        return what == 0 ? who : thought.coins[who];
    }

    public int worn() {
        thought.become(now);
        for (int n = 0; n <= MOST_TILL_WORN; n++) {
            if (thought.allValue() == 0) {
                return n;
            }
            thought.goOn(1);
        }
        return NONE;
    }

    public int dye(int day, int n, int what) {
        if (!isDay(day) || !within(n, 1, MOST_TRIED) || !within(what, 0, 1)) {
            return BAD;
        }
        int owner = now.owner[day];
        int best = -1;
        int most = -1;
        for (int tone = 0; tone <= MOST_TONE; tone++) {
            thought.become(now);
            thought.tone[day] = tone;
            thought.goOn(n);
            if (thought.coins[owner] > most) {
                best = tone;
                most = thought.coins[owner];
            }
        }
        return what == 0 ? best : most;
    }

    public int mends(int n, int what) {
        if (!within(n, 1, MOST_TRIED) || !within(what, 0, 1)) {
            return BAD;
        }
        if (now.days == 0) {
            return NONE;
        }
        int best = -1;
        int most = -1;
        for (int day = 0; day < now.days; day++) {
            thought.become(now);
            thought.kind[day] = MENDED;
            thought.goOn(n);
            if (thought.sales > most) {
                best = day;
                most = thought.sales;
            }
        }
        return what == 0 ? best : most;
    }

    public int toldBy(int sheet, int what) {
        if (!isSheet(sheet) || !within(what, 0, 1)) {
            return BAD;
        }
        if (sheets[sheet].sort == MISSING) {
            return NOTHING;
        }
        if (now.days == 0) {
            return NONE;
        }
        Row row = sheets[sheet];
        startDifferences();
        for (int place = 0; place < row.length; place++) {
            if (row.isNumber(place)) {
                addDifferences(row.places[place]);
            }
            thought.goOn(1);
        }
        int best = 0;
        for (int day = 1; day < now.days; day++) {
            if (differences[day] < differences[best]) {
                best = day;
            }
        }
        return what == 0 ? best : differences[best];
    }

    public int fine(int one) {
        if (!isOne(one)) {
            return BAD;
        }
        int law = now.counting[FINE];
        if (law < 0) {
            return now.coins[one];
        }
        return laws.workOut(law, now.coins[one], Integer.bitCount(now.daysOf(one)), 0);
    }

    // ---- texts

    public int feed(int a, int b, int c) {
        if (reader.length > MOST_BYTES - BYTES_A_FEED) {
            return FULL;
        }
        reader.takeIn(a);
        reader.takeIn(b);
        reader.takeIn(c);
        return reader.length;
    }

    public int trim(int n) {
        if (!within(n, 0, reader.length)) {
            return BAD;
        }
        reader.length = n;
        return n;
    }

    public int text() {
        boolean right = reader.readText();
        reader.length = 0;
        if (!right) {
            return FAULT_AT_0 - reader.start;
        }
        if (now.texts >= MOST_TEXTS) {
            return FULL;
        }
        int number = now.texts;
        laws.write(number, reader);
        now.texts = number + 1;
        now.counting[reader.key] = number;
        return number;
    }

    public int textTold(int text, int what) {
        if (!within(text, 0, now.texts - 1)) {
            return BAD;
        }
        switch (what) {
            case 0: return laws.key[text];
            case 1: return laws.leaves[text];
            default: return BAD;
        }
    }

    public int why(int key) {
        if (!within(key, 0, KEYS - 1)) {
            return BAD;
        }
        return now.counting[key] < 0 ? NONE : now.counting[key];
    }

    // ---- sheets, slots

    public int sheet(int sheet, int sort, int n) {
        if (!isSheet(sheet) || !within(sort, MISSING, FLOATS)) {
            return BAD;
        }
        if (sort == MISSING) {
            sheets[sheet].renew(MISSING, 0);
            return 0;
        }
        if (n > MOST_PLACES) {
            return BAD;
        }
        if (n < 0) {
            return SIZE;
        }
        sheets[sheet].renew(sort, n);
        return n;
    }

    public int mark(int sheet, int place, int v) {
        if (!isSheet(sheet)) {
            return BAD;
        }
        Row row = sheets[sheet];
        if (row.sort == MISSING) {
            return NOTHING;
        }
        if (!row.hasPlace(place)) {
            return INDEX;
        }
        if (row.sort == SHORTS) {
            if (v == NONE) {
                return KIND;
            }
            row.places[place] = (short) v;
            return 1;
        }
        if (v != NONE && !within(v, -MOST_FLOAT, MOST_FLOAT)) {
            return BAD;
        }
        row.places[place] = v;
        return 1;
    }

    public int pour(int sheet) {
        if (!isSheet(sheet)) {
            return BAD;
        }
        Row row = sheets[sheet];
        if (row.sort == MISSING) {
            return NOTHING;
        }
        int otherwise = 0;
        for (int one = 0; one < PEOPLE && one < row.length; one++) {
            if (row.isNumber(one)) {
                int coins = held(row.places[one], 0, MOST_COINS);
                otherwise += coins == now.coins[one] ? 0 : 1;
                now.coins[one] = coins;
            }
        }
        return otherwise;
    }

    public int reads(int sheet) {
        if (!isSheet(sheet)) {
            return BAD;
        }
        Row row = sheets[sheet];
        if (row.sort == MISSING) {
            return NOTHING;
        }
        for (int place = 0; place < row.length; place++) {
            if (row.isNumber(place) && (!isDay(place) || row.places[place] != now.wear[place])) {
                return place;
            }
        }
        return NONE;
    }

    public int copy(int from, int place, int to, int at, int many) {
        if (!isSheet(from) || !isSheet(to)) {
            return BAD;
        }
        Row source = sheets[from];
        Row goal = sheets[to];
        if (source.sort == MISSING || goal.sort == MISSING) {
            return NOTHING;
        }
        if (source.sort != goal.sort) {
            return KIND;
        }
        if (!source.hasRun(place, many) || !goal.hasRun(at, many)) {
            return INDEX;
        }
        System.arraycopy(source.places, place, goal.places, at, many);
        return many;
    }

    public int lay(int slot, int thing, int k) {
        if (!isSlot(slot) || !within(thing, HOLDS_NOTHING, HOLDS_NUMBER)) {
            return BAD;
        }
        if (thing == HOLDS_DAY && !isDay(k) || thing == HOLDS_SHEET && !isSheet(k)) {
            return BAD;
        }
        if (thing == HOLDS_SHEET && sheets[k].sort == MISSING) {
            return NOTHING;
        }
        Slot place = slots[slot];
        int was = place.thing;
        place.thing = thing;
        if (thing == HOLDS_DAY) {
            place.kind = now.kind[k];
            place.date = now.date[k];
        } else if (thing == HOLDS_SHEET) {
            place.row.become(sheets[k]);
        } else {
            place.number = k;
        }
        return was;
    }

    public int ask(int slot, int kind) {
        if (!isSlot(slot) || !isKind(kind)) {
            return BAD;
        }
        Slot place = slots[slot];
        if (place.thing == HOLDS_NOTHING) {
            return NOTHING;
        }
        if (place.thing != HOLDS_DAY || !isUnder(place.kind, kind)) {
            return KIND;
        }
        return worthOf(place.kind, place.date);
    }

    public int item(int slot, int place) {
        if (!isSlot(slot)) {
            return BAD;
        }
        Slot holder = slots[slot];
        if (holder.thing == HOLDS_NOTHING) {
            return NOTHING;
        }
        if (holder.thing != HOLDS_SHEET) {
            return KIND;
        }
        if (!holder.row.hasPlace(place)) {
            return INDEX;
        }
        return holder.row.isNumber(place) ? holder.row.places[place] : KIND;
    }

    public int rest(int slot, int n) {
        if (!isSlot(slot)) {
            return BAD;
        }
        Slot place = slots[slot];
        if (place.thing == HOLDS_NOTHING) {
            return NOTHING;
        }
        if (place.thing != HOLDS_NUMBER) {
            return KIND;
        }
        return n == 0 ? NO : place.number % n;
    }

    // ---- rows, images

    public int tell(int v) {
        if (waits >= MOST_WAITING) {
            return FULL;
        }
        waiting[waits] = v;
        waits++;
        return waits;
    }

    public int check(int n) {
        int many = waits;
        waits = 0;
        if (!within(n, 1, MOST_CHECKED)) {
            return BAD;
        }
        if (!kept) {
            return NO;
        }
        thought.become(image);
        int due = 2 * image.marketsLeft(n);
        for (int i = 0; i < due; i++) {
            boolean first = i % 2 == 0;
            if (first) {
                thought.goOn(1);
            }
            int right = first ? thought.sales : thought.allWear();
            if (i >= many || waiting[i] != right) {
                return 1 + i;
            }
        }
        return many > due ? 1 + due : 0;
    }

    public int keep() {
        image.become(now);
        kept = true;
        return now.days;
    }

    public int back() {
        if (!kept) {
            return NO;
        }
        now.become(image);
        return now.days;
    }

    public int count(int what) {
        switch (what) {
            case 0: return now.days;
            case 1: return now.market;
            case 2: return now.allWear();
            case 3: return now.allValue();
            case 4: return now.texts;
            case 5: return waits;
            case 6: return reader.length;
            case 7: return now.z;
            default: return BAD;
        }
    }

    // ---- what the calls share

    private boolean isDay(int day) {
        return within(day, 0, now.days - 1);
    }

    private static boolean isOne(int one) {
        return within(one, 0, PEOPLE - 1);
    }

    private static boolean isKind(int kind) {
        return within(kind, 0, KINDS - 1);
    }

    private static boolean isSheet(int sheet) {
        return within(sheet, 0, SHEETS - 1);
    }

    private static boolean isSlot(int slot) {
        return within(slot, 0, SLOTS - 1);
    }

    private static boolean within(int v, int least, int most) {
        return v >= least && v <= most;
    }

    private static int held(int v, int least, int most) {
        return Math.max(least, Math.min(most, v));
    }

    private static int exchange(int[] row, int place, int v) {
        int was = row[place];
        row[place] = v;
        return was;
    }

    private static int sumOver(int[] row, int set) {
        int sum = 0;
        for (int i = 0; i < row.length; i++) {
            if ((set >> i & 1) != 0) {
                sum += row[i];
            }
        }
        return sum;
    }

    private static boolean isUnder(int kind, int above) {
        int at = kind;
        for (int step = 0; step < KINDS && at >= 0; step++) {
            if (at == above) {
                return true;
            }
            at = ABOVE[at];
        }
        return false;
    }

    private static int worthOf(int kind, int date) {
        switch (kind) {
            case MENDED: return date + 7;
            case PATCHED: return 2 * (date + 7);
            case DYED: return 99 - date;
            case FADED: return 99 - date - 3;
            case DREAMT: return 6;
            default: return date;
        }
    }

    private void startDifferences() {
        thought.become(now);
        for (int day = 0; day < MOST_DAYS; day++) {
            differences[day] = 0;
        }
    }

    private void addDifferences(int number) {
        for (int day = 0; day < thought.days; day++) {
            differences[day] += Math.abs(thought.wear[day] - number);
        }
    }

    /** All that an IMAGE keeps, so that what is only thought can go on from a copy of it. */
    private static final class World {
        final Laws laws;
        final int[] kind = new int[MOST_DAYS];
        final int[] date = new int[MOST_DAYS];
        final int[] tone = new int[MOST_DAYS];
        final int[] wear = new int[MOST_DAYS];
        final int[] owner = new int[MOST_DAYS];
        final int[] had = new int[MOST_DAYS];
        final int[] coins = new int[PEOPLE];
        final int[] wish = new int[PEOPLE];
        /** For each KEY the TEXT that counts, -1 for none. */
        final int[] counting = new int[KEYS];
        int days;
        int texts;
        int sales;
        int lost;
        int market;
        int z;

        World(Laws laws) {
            this.laws = laws;
            for (int one = 0; one < PEOPLE; one++) {
                coins[one] = 100;
                wish[one] = one;
            }
            for (int key = 0; key < KEYS; key++) {
                counting[key] = -1;
            }
            z = 1;
        }

        /** TEXTS themselves need no copy: what THE IMAGE has of them is never written over. */
        void become(World other) {
            System.arraycopy(other.kind, 0, kind, 0, MOST_DAYS);
            System.arraycopy(other.date, 0, date, 0, MOST_DAYS);
            System.arraycopy(other.tone, 0, tone, 0, MOST_DAYS);
            System.arraycopy(other.wear, 0, wear, 0, MOST_DAYS);
            System.arraycopy(other.owner, 0, owner, 0, MOST_DAYS);
            System.arraycopy(other.had, 0, had, 0, MOST_DAYS);
            System.arraycopy(other.coins, 0, coins, 0, PEOPLE);
            System.arraycopy(other.wish, 0, wish, 0, PEOPLE);
            System.arraycopy(other.counting, 0, counting, 0, KEYS);
            days = other.days;
            texts = other.texts;
            sales = other.sales;
            lost = other.lost;
            market = other.market;
            z = other.z;
        }

        int addDay(int newKind, int newDate, int newTone, int newOwner) {
            int number = days;
            if (number >= MOST_DAYS) {
                return FULL;
            }
            kind[number] = newKind;
            date[number] = newDate;
            tone[number] = newTone;
            wear[number] = 0;
            owner[number] = newOwner;
            had[number] = 1 << newOwner;
            days = number + 1;
            return number;
        }

        int draw() {
            z = z * 1103515245 + 12345;
            return z >>> 8;
        }

        void drawDay() {
            int newKind = draw() % KINDS;
            int newDate = draw() % (MOST_DATE + 1);
            int newTone = draw() % (MOST_TONE + 1);
            int newOwner = draw() % PEOPLE;
            addDay(newKind, newDate, newTone, newOwner);
        }

        int daysOf(int one) {
            int set = 0;
            for (int day = 0; day < days; day++) {
                if (owner[day] == one) {
                    set |= 1 << day;
                }
            }
            return set;
        }

        int priceOf(int day, int asTone) {
            int law = counting[PRICE];
            if (law < 0) {
                return Math.max(0, 10 * asTone - wear[day]);
            }
            return held(laws.workOut(law, asTone, wear[day], date[day]), 0, MOST_VALUE);
        }

        int valueOf(int day) {
            switch (kind[day]) {
                case MENDED: return priceOf(day, tone[day]) + 20;
                case PATCHED: return (priceOf(day, tone[day]) + 20) / 2;
                case DYED: return priceOf(day, 9 - tone[day]);
                case FADED: return Math.max(0, priceOf(day, 9 - tone[day]) - wear[day]);
                case DREAMT: return 5;
                default: return priceOf(day, tone[day]);
            }
        }

        /** OFFER; VALUE comes from outside, since six of PEOPLE share it and a TEXT is long to work out. */
        int bidOf(int one, int day, int value) {
            int bid = Math.max(0, value - 5 * Math.abs(tone[day] - wish[one]));
            return owner[day] == one ? bid : Math.min(bid, coins[one]);
        }

        int bestBidder(int day, int value) {
            int best = owner[day] == 0 ? 1 : 0;
            int most = bidOf(best, day, value);
            for (int one = best + 1; one < PEOPLE; one++) {
                int bid = bidOf(one, day, value);
                if (one != owner[day] && bid > most) {
                    best = one;
                    most = bid;
                }
            }
            return best;
        }

        void sell(int day, int to, int price) {
            int from = owner[day];
            int sum = coins[from] + price;
            coins[to] -= price;
            coins[from] = Math.min(sum, MOST_COINS);
            lost += sum - coins[from];
            owner[day] = to;
            had[day] |= 1 << to;
            sales++;
        }

        int marketsLeft(int n) {
            return Math.min(n, MOST_MARKETS - market);
        }

        void goOn(int n) {
            for (int i = 0; i < n; i++) {
                wearDays();
                sellDays();
                market++;
            }
        }

        void wearDays() {
            int law = counting[WEAR];
            for (int day = 0; day < days; day++) {
                int x = draw() % 10;
                int more = law < 0 ? x / 3 : held(laws.workOut(law, x, tone[day], wear[day]), 0, MOST_WEAR_AT_ONCE);
                wear[day] = Math.min(wear[day] + more, MOST_WEAR);
            }
        }

        void sellDays() {
            for (int day = 0; day < days; day++) {
                int value = valueOf(day);
                int to = bestBidder(day, value);
                int bid = bidOf(to, day, value);
                if (bid > bidOf(owner[day], day, value)) {
                    sell(day, to, bid);
                }
            }
        }

        int allCoins() {
            int sum = 0;
            for (int one = 0; one < PEOPLE; one++) {
                sum += coins[one];
            }
            return sum;
        }

        int allWear() {
            int sum = 0;
            for (int day = 0; day < days; day++) {
                sum += wear[day];
            }
            return sum;
        }

        int allValue() {
            int sum = 0;
            for (int day = 0; day < days; day++) {
                sum += valueOf(day);
            }
            return sum;
        }

        int howMany(int ofDate, int ofTone) {
            int many = 0;
            for (int day = 0; day < days; day++) {
                if (date[day] == ofDate && tone[day] == ofTone) {
                    many++;
                }
            }
            return many;
        }

        int trueTone(int ofDate) {
            int best = 0;
            for (int t = 1; t <= MOST_TONE; t++) {
                if (howMany(ofDate, t) > howMany(ofDate, best)) {
                    best = t;
                }
            }
            return best;
        }

        /** One TONE of each DATE can stay, so all but those of the most common one go. */
        int falseDays() {
            int many = 0;
            for (int day = 0; day < days; day++) {
                if (tone[day] != trueTone(date[day])) {
                    many++;
                }
            }
            return many;
        }
    }

    /** What FILL weighs of each DAY, kept so that a call makes no rows of its own. */
    private static final class Life {
        final int[] value = new int[MOST_DAYS];
        final int[] joy = new int[MOST_DAYS];
        /** For each DAY the set of those that it cannot stand with: itself, if one owns it already. */
        final int[] clash = new int[MOST_DAYS];

        void lookAt(World world, int one) {
            for (int day = 0; day < world.days; day++) {
                value[day] = world.valueOf(day);
                joy[day] = 10 - Math.abs(world.tone[day] - world.wish[one]);
                clash[day] = world.owner[day] == one ? 1 << day : 0;
                for (int other = 0; other < day; other++) {
                    if (world.date[other] == world.date[day]) {
                        clash[day] |= 1 << other;
                    }
                }
            }
        }

        int bestSet(int days, int coins) {
            int best = 0;
            int most = 0;
            for (int set = 1; set < 1 << days; set++) {
                if (canStand(set, days) && sumOver(value, set) <= coins) {
                    int sum = sumOver(joy, set);
                    if (sum > most || sum == most && Integer.bitCount(set) < Integer.bitCount(best)) {
                        best = set;
                        most = sum;
                    }
                }
            }
            return best;
        }

        boolean canStand(int set, int days) {
            for (int day = 0; day < days; day++) {
                if ((set >> day & 1) != 0 && (clash[day] & set) != 0) {
                    return false;
                }
            }
            return true;
        }
    }

    /** TEXTS as steps for a stack, each behind what it joins, so that no call within a call works them out. */
    private static final class Laws {
        final int[] key = new int[MOST_TEXTS];
        final int[] leaves = new int[MOST_TEXTS];
        final int[] length = new int[MOST_TEXTS];
        final int[][] steps = new int[MOST_TEXTS][MOST_BYTES];
        final int[] stack = new int[MOST_BYTES];

        void write(int law, Reader reader) {
            key[law] = reader.key;
            leaves[law] = reader.leaves;
            length[law] = reader.many;
            System.arraycopy(reader.steps, 0, steps[law], 0, reader.many);
        }

        int workOut(int law, int first, int second, int third) {
            int[] row = steps[law];
            int depth = 0;
            for (int i = 0; i < length[law]; i++) {
                int step = row[i];
                if (step >= LAST_NAME) {
                    if (depth < MOST_BYTES) {
                        stack[depth] = leaf(step, first, second, third);
                        depth++;
                    }
                } else if (step == -'!') {
                    if (depth >= 1) {
                        stack[depth - 1] = stack[depth - 1] == 0 ? 1 : 0;
                    }
                } else if (depth >= 2) {
                    depth--;
                    stack[depth - 1] = join(-step, stack[depth - 1], stack[depth]);
                }
            }
            return stack[0];
        }

        static int leaf(int step, int first, int second, int third) {
            switch (step) {
                case -1: return first;
                case -2: return second;
                case LAST_NAME: return third;
                default: return step;
            }
        }

        static int join(int sign, int left, int right) {
            switch (sign) {
                case '+': return left + right;
                case '-': return left - right;
                case '*': return left * right;
                case '/': return right == 0 ? 0 : left / right;
                case '<': return left < right ? 1 : 0;
                case '=': return left == right ? 1 : 0;
                case '>': return left > right ? 1 : 0;
                case '&': return left != 0 && right != 0 ? 1 : 0;
                default: return left != 0 || right != 0 ? 1 : 0;
            }
        }
    }

    /** THE TAPE and how it is read: a refusal leaves the word or sign at hand, whose start is the FAULT. */
    private static final class Reader {
        static final int END = 0;
        static final int SIGN = 1;
        static final int NUMBER = 2;
        static final int LETTERS = 3;
        static final int WRONG = 4;
        /** The levels of E, the loosest first. */
        static final int OR = 0;
        static final int AND = 1;
        static final int TEST = 2;
        static final int SUM = 3;
        static final int PIECE = 5;

        final int[] tape = new int[MOST_BYTES];
        final int[] steps = new int[MOST_BYTES];
        int length;
        int start;
        int end;
        int sort;
        int number;
        int key;
        int many;
        int leaves;

        void takeIn(int v) {
            for (int shift = 24; shift >= 0 && length < MOST_BYTES; shift -= 8) {
                tape[length] = v >>> shift & 255;
                length++;
            }
        }

        boolean readText() {
            end = 0;
            sort = END;
            many = 0;
            leaves = 0;
            goToNext();
            key = keyAtHand();
            if (key < 0) {
                return false;
            }
            goToNext();
            return readLevel(OR, 0, 0) && sort == END;
        }

        private boolean readLevel(int level, int open, int nots) {
            if (level >= PIECE) {
                return readPiece(open, nots);
            }
            if (!readLevel(level + 1, open, nots)) {
                return false;
            }
            int most = level == TEST ? 1 : MOST_BYTES;
            for (int i = 0; i < most && joinsAt(level); i++) {
                int sign = number;
                goToNext();
                if (!readLevel(level + 1, open, nots)) {
                    return false;
                }
                addStep(-sign);
            }
            return true;
        }

        private boolean readPiece(int open, int nots) {
            if (sort == NUMBER) {
                return takeLeaf(number);
            }
            if (sort == LETTERS) {
                int name = nameAtHand();
                return name >= 0 && takeLeaf(-1 - name);
            }
            if (isSign('!')) {
                return nots < MOST_OPEN && readNot(open, nots + 1);
            }
            return isSign('(') && open < MOST_OPEN && readOpen(open + 1, nots);
        }

        private boolean readNot(int open, int nots) {
            goToNext();
            if (!readPiece(open, nots)) {
                return false;
            }
            addStep(-'!');
            return true;
        }

        private boolean readOpen(int open, int nots) {
            goToNext();
            if (!readLevel(OR, open, nots) || !isSign(')')) {
                return false;
            }
            goToNext();
            return true;
        }

        private boolean takeLeaf(int step) {
            addStep(step);
            leaves++;
            goToNext();
            return true;
        }

        private void addStep(int step) {
            if (many < MOST_BYTES) {
                steps[many] = step;
                many++;
            }
        }

        private boolean isSign(int sign) {
            return sort == SIGN && number == sign;
        }

        private boolean joinsAt(int level) {
            switch (level) {
                case OR: return isSign('|');
                case AND: return isSign('&');
                case TEST: return isSign('<') || isSign('=') || isSign('>');
                case SUM: return isSign('+') || isSign('-');
                default: return isSign('*') || isSign('/');
            }
        }

        private int keyAtHand() {
            for (int k = 0; k < KEYS; k++) {
                if (sort == LETTERS && isWord(keyText(k))) {
                    return k;
                }
            }
            return -1;
        }

        private int nameAtHand() {
            return end - start == 1 ? namesOf(key).indexOf((char) tape[start]) : -1;
        }

        private boolean isWord(String word) {
            if (end - start != word.length()) {
                return false;
            }
            for (int i = 0; i < word.length(); i++) {
                if (tape[start + i] != word.charAt(i)) {
                    return false;
                }
            }
            return true;
        }

        private static String keyText(int key) {
            switch (key) {
                case PRICE: return "price";
                case WEAR: return "wear";
                default: return "fine";
            }
        }

        /** In the order in which workOut takes what they stand for. */
        private static String namesOf(int key) {
            switch (key) {
                case PRICE: return "twd";
                case WEAR: return "xtw";
                default: return "cn";
            }
        }

        private void goToNext() {
            boolean behindWord = sort == NUMBER || sort == LETTERS;
            start = end;
            while (start < length && tape[start] == ' ') {
                start++;
            }
            boolean glued = behindWord && start == end;
            if (start >= length) {
                sort = END;
                end = length;
            } else if (isLetter(tape[start])) {
                takeLetters(glued);
            } else if (isDigit(tape[start])) {
                takeDigits(glued);
            } else {
                sort = SIGN;
                number = tape[start];
                end = start + 1;
            }
        }

        private void takeLetters(boolean glued) {
            end = start;
            while (end < length && isLetter(tape[end])) {
                end++;
            }
            sort = glued ? WRONG : LETTERS;
        }

        private void takeDigits(boolean glued) {
            end = start;
            number = 0;
            while (end < length && isDigit(tape[end])) {
                number = number * 10 + tape[end] - '0';
                end++;
            }
            sort = glued || end - start > MOST_DIGITS ? WRONG : NUMBER;
        }

        private static boolean isLetter(int sign) {
            return sign >= 'a' && sign <= 'z';
        }

        private static boolean isDigit(int sign) {
            return sign >= '0' && sign <= '9';
        }
    }

    /** A SHEET, of either sort; NONE stands for NO NUMBER, which no place can hold as a number. */
    private static final class Row {
        final int[] places = new int[MOST_PLACES];
        int sort = MISSING;
        int length;

        void renew(int newSort, int newLength) {
            sort = newSort;
            length = newLength;
            for (int place = 0; place < MOST_PLACES; place++) {
                places[place] = 0;
            }
        }

        void become(Row other) {
            sort = other.sort;
            length = other.length;
            System.arraycopy(other.places, 0, places, 0, MOST_PLACES);
        }

        boolean hasPlace(int place) {
            return within(place, 0, length - 1);
        }

        /** many is taken from length, not added to place: that sum could wrap. */
        boolean hasRun(int place, int many) {
            return within(many, 0, length) && within(place, 0, length - many);
        }

        boolean isNumber(int place) {
            return places[place] != NONE;
        }
    }

    /** Of a DAY a SLOT keeps what ask needs: for good, so apart from the market's rows. */
    private static final class Slot {
        final Row row = new Row();
        int thing = HOLDS_NOTHING;
        int kind;
        int date;
        int number;
    }
}
