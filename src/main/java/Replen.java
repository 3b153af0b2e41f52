import java.util.NoSuchElementException;

/** A stock planner for shops. */
public final class Replen {

    private static final int MOST_SHOPS = 4;
    private static final int MOST_ITEMS = 5;
    private static final int LONGEST_LEAD = 5;
    private static final int LARGEST_PACK = 50;
    private static final int MOST_ADDED = 9999;
    private static final int MOST_CENTRE = 99999;
    private static final int MOST_FIRST_STOCK = 999;
    private static final int MOST_FIRST_LEVEL = 99999;
    private static final int MOST_DEMAND = 99;
    private static final int MOST_DEMAND_A_DAY = 999;
    private static final int LAST_DAY = 999;
    private static final int LAST_FORECAST_DAY = 1099;
    private static final int WEEK = 7;
    private static final int FIRST_SEASON = 1000;
    private static final int LEAST_SEASON = 100;
    private static final int MOST_SEASON = 5000;
    private static final int MOST_ERROR = 20;
    /** Packs that leave on the last day are still due a lead time later. */
    private static final int BOOKED_DAYS = LAST_DAY + LONGEST_LEAD + 1;
    /** Halving any int so often leaves nothing. */
    private static final int MOST_HALVINGS = 32;

    private final int[] leads = new int[MOST_SHOPS];
    private final Item[] items = new Item[MOST_ITEMS];
    private final Line[] lines = new Line[MOST_SHOPS * MOST_ITEMS];
    private final DayBook levelRates = new DayBook();
    private final DayBook seasonRates = new DayBook();
    private final Learner replay = new Learner();
    private final Sharing sharing = new Sharing();
    private int shopCount = 0;
    private int itemCount = 0;
    private int lineCount = 0;
    private int day = 0;
    private int percent = 90;
    private int levelRate = 20;
    private int seasonRate = 10;

    public Replen() {
    }

    // ---- shops and items

    public int addShop(int lead) throws IllegalArgumentException, IllegalStateException {
        if (lead < 1 || lead > LONGEST_LEAD) {
            throw new IllegalArgumentException("the lead time is not between 1 and 5");
        }
        if (shopCount >= leads.length) {
            throw new IllegalStateException("there are 4 shops");
        }
        leads[shopCount] = lead;
        shopCount++;
        return shopCount - 1;
    }

    public int addItem(int pack, int stock) throws IllegalArgumentException, IllegalStateException {
        if (pack < 1 || pack > LARGEST_PACK) {
            throw new IllegalArgumentException("the pack size is not between 1 and 50");
        }
        if (stock < 0 || stock > MOST_ADDED) {
            throw new IllegalArgumentException("the stock is not between 0 and 9999");
        }
        if (itemCount >= items.length) {
            throw new IllegalStateException("there are 5 items");
        }
        items[itemCount] = new Item(pack, stock);
        itemCount++;
        return itemCount - 1;
    }

    public int carry(int shop, int item, int stock, int level)
            throws IndexOutOfBoundsException, IllegalArgumentException, IllegalStateException {
        requireShop(shop);
        Item carried = requireItem(item);
        if (stock < 0 || stock > MOST_FIRST_STOCK) {
            throw new IllegalArgumentException("the stock is not between 0 and 999");
        }
        if (level < 0 || level > MOST_FIRST_LEVEL) {
            throw new IllegalArgumentException("the level is not between 0 and 99999");
        }
        int place = placeOf(shop, item);
        if (place < 0 || place >= lines.length || lines[place] != null) {
            throw new IllegalStateException("the shop carries the item");
        }
        lines[place] = new Line(carried, leadOf(shop), day, stock, level);
        lineCount++;
        return lineCount;
    }

    public boolean carries(int shop, int item) throws IndexOutOfBoundsException {
        requireShop(shop);
        requireItem(item);
        return lineOrNull(shop, item) != null;
    }

    public int supply(int item, int units)
            throws IndexOutOfBoundsException, IllegalArgumentException, IllegalStateException {
        Item supplied = requireItem(item);
        if (units < 1 || units > MOST_ADDED) {
            throw new IllegalArgumentException("the number is not between 1 and 9999");
        }
        if (supplied.stock + units > MOST_CENTRE) {
            throw new IllegalStateException("the central stock would be greater than 99999");
        }
        supplied.takeIn(day, units);
        return supplied.stock;
    }

    public int setService(int percent) throws IllegalArgumentException {
        if (percent < 1 || percent > 100) {
            throw new IllegalArgumentException("the service is not between 1 and 100");
        }
        int before = this.percent;
        this.percent = percent;
        return before;
    }

    public int setRates(int level, int season) throws IllegalArgumentException {
        if (level < 0 || level > 100) {
            throw new IllegalArgumentException("the level rate is not between 0 and 100");
        }
        if (season < 0 || season > 100) {
            throw new IllegalArgumentException("the season rate is not between 0 and 100");
        }
        int before = levelRate;
        levelRate = level;
        seasonRate = season;
        return before;
    }

    public boolean mark(int item, int day) throws IndexOutOfBoundsException, IllegalArgumentException {
        Item marked = requireItem(item);
        if (day < this.day || day > LAST_DAY) {
            throw new IllegalArgumentException("the day is before today, or greater than 999");
        }
        boolean before = marked.hasPromotion(day);
        if (!before) {
            marked.promotions.add(day, 1);
        }
        return before;
    }

    public boolean isMarked(int item, int day) throws IndexOutOfBoundsException, IllegalArgumentException {
        Item asked = requireItem(item);
        if (day < 0 || day > LAST_DAY) {
            throw new IllegalArgumentException("the day is not between 0 and 999");
        }
        return asked.hasPromotion(day);
    }

    // ---- days

    public int demand(int shop, int item, int units)
            throws IndexOutOfBoundsException, NoSuchElementException, IllegalArgumentException,
            UnsupportedOperationException {
        Line line = requireLine(shop, item);
        if (units < 1 || units > MOST_DEMAND) {
            throw new IllegalArgumentException("the number is not between 1 and 99");
        }
        if (line.demands.on(day) + units > MOST_DEMAND_A_DAY) {
            throw new UnsupportedOperationException("the demand today would be greater than 999");
        }
        return line.sell(day, units);
    }

    public int night() throws IllegalStateException {
        if (day >= LAST_DAY) {
            throw new IllegalStateException("today is the day 999");
        }
        learnToday();
        day++;
        receiveToday();
        int left = 0;
        for (int item = 0; item < itemCount; item++) {
            left += sendPacks(item);
        }
        return left;
    }

    public int today() {
        return day;
    }

    public int demandToday(int shop, int item) throws IndexOutOfBoundsException, NoSuchElementException {
        return requireLine(shop, item).demands.on(day);
    }

    // ---- forecasts

    public int level(int shop, int item) throws IndexOutOfBoundsException, NoSuchElementException {
        return requireLine(shop, item).learner.level;
    }

    public int levelByDays(int shop, int item) throws IndexOutOfBoundsException, NoSuchElementException {
        Line line = requireLine(shop, item);
        replay.start(line.firstLevel);
        for (int past = line.firstDay; past < day; past++) {
            if (!line.item.hasPromotion(past)) {
                replay.learn(past, line.demands.on(past), levelRates.on(past), seasonRates.on(past));
            }
        }
        return replay.level;
    }

    public int season(int shop, int item, int weekday)
            throws IndexOutOfBoundsException, NoSuchElementException, IllegalArgumentException {
        Line line = requireLine(shop, item);
        if (weekday < 0 || weekday >= WEEK) {
            throw new IllegalArgumentException("the weekday is not between 0 and 6");
        }
        return line.learner.seasonOf(weekday);
    }

    public int forecast(int shop, int item, int day)
            throws IndexOutOfBoundsException, NoSuchElementException, IllegalArgumentException {
        Line line = requireLine(shop, item);
        if (day < this.day || day > LAST_FORECAST_DAY) {
            throw new IllegalArgumentException("the day is before today, or greater than 1099");
        }
        return line.learner.thousandthsFor(day);
    }

    public int errors(int shop, int item, int size)
            throws IndexOutOfBoundsException, NoSuchElementException, IllegalArgumentException {
        Line line = requireLine(shop, item);
        if (size < 0 || size > MOST_ERROR) {
            throw new IllegalArgumentException("the error is not between 0 and 20");
        }
        return line.timesOf(size);
    }

    public int safety(int shop, int item) throws IndexOutOfBoundsException, NoSuchElementException {
        return requireLine(shop, item).safetyAt(percent);
    }

    // ---- orders

    public int stock(int shop, int item) throws IndexOutOfBoundsException, NoSuchElementException {
        return requireLine(shop, item).stock;
    }

    public int stockByJournal(int shop, int item) throws IndexOutOfBoundsException, NoSuchElementException {
        return requireLine(shop, item).journalStock(day);
    }

    public int onWay(int shop, int item) throws IndexOutOfBoundsException, NoSuchElementException {
        return requireLine(shop, item).dueAfter(day);
    }

    public int nextArrival(int shop, int item) throws IndexOutOfBoundsException, NoSuchElementException {
        int next = requireLine(shop, item).firstDueAfter(day);
        if (next < 0) {
            throw new NoSuchElementException("nothing is on its way");
        }
        return next;
    }

    public int need(int shop, int item) throws IndexOutOfBoundsException, NoSuchElementException {
        return requireLine(shop, item).needOn(day, percent);
    }

    public int request(int shop, int item) throws IndexOutOfBoundsException, NoSuchElementException {
        return requireLine(shop, item).requestOn(day, percent);
    }

    public int share(int shop, int item) throws IndexOutOfBoundsException, NoSuchElementException {
        requireLine(shop, item);
        askForAll(item);
        return sharing.counted(shop);
    }

    public int shareByPacks(int shop, int item) throws IndexOutOfBoundsException, NoSuchElementException {
        requireLine(shop, item);
        askForAll(item);
        return sharing.handedOut(shop);
    }

    public int centre(int item) throws IndexOutOfBoundsException {
        return requireItem(item).stock;
    }

    public int centreByJournal(int item) throws IndexOutOfBoundsException {
        return requireItem(item).journalStock(day);
    }

    // ---- sums

    public int sold(int shop, int item) throws IndexOutOfBoundsException, NoSuchElementException {
        return requireLine(shop, item).soldSum;
    }

    public int lost(int shop, int item) throws IndexOutOfBoundsException, NoSuchElementException {
        return requireLine(shop, item).lostSum;
    }

    public long units() {
        long sum = 0;
        for (int number = 0; number < items.length; number++) {
            Item item = items[number];
            if (item != null) {
                sum += item.stock;
            }
        }
        for (int place = 0; place < lines.length; place++) {
            Line line = lines[place];
            if (line != null) {
                sum += line.stock;
                sum += line.dueAfter(day);
            }
        }
        return sum;
    }

    public float service(int shop) throws IndexOutOfBoundsException, NoSuchElementException {
        requireShop(shop);
        int soldThere = 0;
        int lostThere = 0;
        for (int item = 0; item < itemCount; item++) {
            Line line = lineOrNull(shop, item);
            if (line != null) {
                soldThere += line.soldSum;
                lostThere += line.lostSum;
            }
        }
        int asked = soldThere + lostThere;
        if (asked == 0) {
            throw new NoSuchElementException("no demand ever came to the shop");
        }
        return (float) soldThere / (float) asked;
    }

    // ---- finding shops, items and lines

    private boolean isShop(int shop) {
        return shop >= 0 && shop < shopCount && shop < leads.length;
    }

    private boolean isItem(int item) {
        return item >= 0 && item < itemCount && item < items.length;
    }

    private void requireShop(int shop) {
        if (!isShop(shop)) {
            throw new IndexOutOfBoundsException("no such shop");
        }
    }

    private Item requireItem(int item) {
        Item found = itemOrNull(item);
        if (found == null) {
            throw new IndexOutOfBoundsException("no such item");
        }
        return found;
    }

    private Item itemOrNull(int item) {
        return isItem(item) ? items[item] : null;
    }

    private Line requireLine(int shop, int item) {
        requireShop(shop);
        requireItem(item);
        Line found = lineOrNull(shop, item);
        if (found == null) {
            throw new NoSuchElementException("the shop does not carry the item");
        }
        return found;
    }

    private Line lineOrNull(int shop, int item) {
        int place = placeOf(shop, item);
        return place >= 0 && place < lines.length ? lines[place] : null;
    }

    /** Less than 0 if there is no such shop or item. */
    private int placeOf(int shop, int item) {
        return isShop(shop) && isItem(item) ? shop * MOST_ITEMS + item : -1;
    }

    private int leadOf(int shop) {
        return isShop(shop) ? leads[shop] : 1;
    }

    // ---- nights and shares

    private void learnToday() {
        // The rates can change from day to day, so learning anew needs those of each day.
        levelRates.add(day, levelRate);
        seasonRates.add(day, seasonRate);
        for (int place = 0; place < lines.length; place++) {
            Line line = lines[place];
            if (line != null && !line.item.hasPromotion(day)) {
                line.learnFrom(day, levelRate, seasonRate);
            }
        }
    }

    private void receiveToday() {
        for (int place = 0; place < lines.length; place++) {
            Line line = lines[place];
            if (line != null) {
                line.stock += line.arrivals.on(day);
            }
        }
    }

    /** Readies the sharing of an item with the requests as they are now. */
    private void askForAll(int item) {
        Item shared = itemOrNull(item);
        sharing.start(shared == null ? 0 : shared.wholePacks());
        for (int shop = 0; shop < shopCount; shop++) {
            Line line = lineOrNull(shop, item);
            if (line != null) {
                sharing.ask(shop, line.requestOn(day, percent));
            }
        }
    }

    /** Answers how many packs of the item leave. */
    private int sendPacks(int item) {
        askForAll(item);
        int left = 0;
        for (int shop = 0; shop < shopCount; shop++) {
            Line line = lineOrNull(shop, item);
            if (line != null) {
                int packs = sharing.counted(shop);
                line.send(day, packs);
                left += packs;
            }
        }
        return left;
    }

    /** Units by days; 0 on the days on which nothing was booked. */
    private static final class DayBook {
        private final int[] units = new int[BOOKED_DAYS];

        int on(int day) {
            return day >= 0 && day < units.length ? units[day] : 0;
        }

        void add(int day, int more) {
            if (day >= 0 && day < units.length) {
                units[day] += more;
            }
        }

        int sumUpTo(int day) {
            int sum = 0;
            for (int past = 0; past <= day && past < units.length; past++) {
                sum += units[past];
            }
            return sum;
        }
    }

    /** An item with its central stock, its journal and its promotions. */
    private static final class Item {
        private final int pack;
        private final int firstStock;
        private final DayBook takenIn = new DayBook();
        private final DayBook givenOut = new DayBook();
        private final DayBook promotions = new DayBook();
        private int stock;

        Item(int pack, int stock) {
            this.pack = pack;
            this.firstStock = stock;
            this.stock = stock;
        }

        boolean hasPromotion(int day) {
            return promotions.on(day) > 0;
        }

        void takeIn(int day, int units) {
            takenIn.add(day, units);
            stock += units;
        }

        void giveOut(int day, int units) {
            givenOut.add(day, units);
            stock -= units;
        }

        int wholePacks() {
            return pack > 0 ? stock / pack : 0;
        }

        int packsFor(int units) {
            return units > 0 && pack > 0 ? (units + pack - 1) / pack : 0;
        }

        int journalStock(int day) {
            return firstStock + takenIn.sumUpTo(day) - givenOut.sumUpTo(day);
        }
    }

    /** A level and its seasons, and how they learn from a day. */
    private static final class Learner {
        private final int[] seasons = new int[WEEK];
        private int level = 0;

        void start(int firstLevel) {
            level = firstLevel;
            for (int weekday = 0; weekday < seasons.length; weekday++) {
                seasons[weekday] = FIRST_SEASON;
            }
        }

        int seasonOf(int weekday) {
            return weekday >= 0 && weekday < seasons.length ? seasons[weekday] : FIRST_SEASON;
        }

        int thousandthsFor(int day) {
            return (int) ((long) level * seasonOf(day % WEEK) / 1000);
        }

        int unitsFor(int day) {
            return (thousandthsFor(day) + 500) / 1000;
        }

        /** Reckons in long: a level near 0 makes a quotient that 100 times over leaves int. */
        void learn(int day, int demand, int levelRate, int seasonRate) {
            int weekday = day % WEEK;
            int season = seasonOf(weekday);
            if (weekday < 0 || weekday >= seasons.length || season <= 0) {
                return;
            }
            long scaled = demand * 1000000L;
            level += (int) Math.floorDiv(levelRate * (scaled / season - level), 100L);
            if (level > 0) {
                long moved = season + Math.floorDiv(seasonRate * (scaled / level - season), 100L);
                seasons[weekday] = (int) Math.max(LEAST_SEASON, Math.min(MOST_SEASON, moved));
            }
        }
    }

    /** An item that a shop carries. */
    private static final class Line {
        private final Item item;
        private final int lead;
        private final int firstDay;
        private final int firstStock;
        private final int firstLevel;
        private final Learner learner = new Learner();
        private final int[] errorTimes = new int[MOST_ERROR + 1];
        private final DayBook demands = new DayBook();
        private final DayBook sales = new DayBook();
        /** By the days on which they are due: past ones have come, later ones are on their way. */
        private final DayBook arrivals = new DayBook();
        private int errorSum = 0;
        private int stock;
        private int soldSum = 0;
        private int lostSum = 0;

        Line(Item item, int lead, int firstDay, int stock, int level) {
            this.item = item;
            this.lead = lead;
            this.firstDay = firstDay;
            this.firstStock = stock;
            this.firstLevel = level;
            this.stock = stock;
            learner.start(level);
        }

        int sell(int day, int units) {
            int sells = Math.min(units, stock);
            demands.add(day, units);
            sales.add(day, sells);
            stock -= sells;
            soldSum += sells;
            lostSum += units - sells;
            return sells;
        }

        void learnFrom(int day, int levelRate, int seasonRate) {
            int demand = demands.on(day);
            int error = Math.min(MOST_ERROR, Math.abs(demand - learner.unitsFor(day)));
            if (error >= 0 && error < errorTimes.length) {
                errorTimes[error]++;
                errorSum++;
            }
            learner.learn(day, demand, levelRate, seasonRate);
        }

        int timesOf(int error) {
            return error >= 0 && error < errorTimes.length ? errorTimes[error] : 0;
        }

        int safetyAt(int percent) {
            int notGreater = 0;
            for (int units = 0; units < errorTimes.length; units++) {
                notGreater += errorTimes[units];
                if (notGreater * 100 >= percent * errorSum) {
                    return units;
                }
            }
            return MOST_ERROR;
        }

        int dueAfter(int day) {
            int sum = 0;
            for (int later = 1; later <= LONGEST_LEAD; later++) {
                sum += arrivals.on(day + later);
            }
            return sum;
        }

        void send(int day, int packs) {
            int units = packs * item.pack;
            item.giveOut(day, units);
            arrivals.add(day + lead, units);
        }

        /** Less than 0 if nothing is due. */
        int firstDueAfter(int day) {
            for (int later = 1; later <= LONGEST_LEAD; later++) {
                if (arrivals.on(day + later) > 0) {
                    return day + later;
                }
            }
            return -1;
        }

        int needOn(int day, int percent) {
            long thousandths = 0;
            for (int later = 0; later <= lead; later++) {
                thousandths += learner.thousandthsFor(day + later);
            }
            int forecast = (int) ((thousandths + 999) / 1000);
            return forecast + safetyAt(percent) - stock - dueAfter(day);
        }

        int requestOn(int day, int percent) {
            return item.packsFor(needOn(day, percent));
        }

        int journalStock(int day) {
            return firstStock + arrivals.sumUpTo(day) - sales.sumUpTo(day);
        }
    }

    /** Shares the packs of one item among the shops that request some. */
    private static final class Sharing {
        private final int[] requests = new int[MOST_SHOPS];
        private final int[] given = new int[MOST_SHOPS];
        private int packs = 0;

        void start(int packs) {
            this.packs = packs;
            for (int shop = 0; shop < requests.length; shop++) {
                requests[shop] = 0;
            }
        }

        void ask(int shop, int request) {
            if (shop >= 0 && shop < requests.length) {
                requests[shop] = request;
            }
        }

        /** The more packs a shop has, the later it gets one more: so its share is found by halving. */
        int counted(int shop) {
            if (shop < 0 || shop >= requests.length) {
                return 0;
            }
            int least = 0;
            int most = requests[shop];
            for (int step = 0; step < MOST_HALVINGS && least < most; step++) {
                int middle = least + (most - least) / 2;
                if (givenAhead(shop, middle) < packs) {
                    least = middle + 1;
                } else {
                    most = middle;
                }
            }
            return least;
        }

        /**
         * How many packs, to all shops, are given ahead of the one that a shop gets when it has so many. Another
         * shop gets a pack ahead of it as long as its quotient is less, or as great if its number is lower.
         */
        private long givenAhead(int shop, int has) {
            long request = shop >= 0 && shop < requests.length ? requests[shop] : 0;
            if (request <= 0) {
                return 0;
            }
            long ahead = has;
            for (int other = 0; other < requests.length; other++) {
                long equal = (long) has * requests[other];
                if (requests[other] > 0 && other < shop) {
                    ahead += equal / request + 1;
                } else if (requests[other] > 0 && other > shop) {
                    ahead += (equal + request - 1) / request;
                }
            }
            return ahead;
        }

        int handedOut(int shop) {
            for (int any = 0; any < given.length; any++) {
                given[any] = 0;
            }
            int next = nextToGet();
            for (int pack = 0; pack < packs && next >= 0 && next < given.length; pack++) {
                given[next]++;
                next = nextToGet();
            }
            return shop >= 0 && shop < given.length ? given[shop] : 0;
        }

        /** Less than 0 if all shops have their requests. Quotients are compared whole, by their products. */
        private int nextToGet() {
            int next = -1;
            long nextGiven = 0;
            long nextRequest = 1;
            for (int shop = 0; shop < given.length && shop < requests.length; shop++) {
                boolean waits = given[shop] < requests[shop];
                if (waits && (next < 0 || given[shop] * nextRequest < nextGiven * requests[shop])) {
                    next = shop;
                    nextGiven = given[shop];
                    nextRequest = requests[shop];
                }
            }
            return next;
        }
    }
}
