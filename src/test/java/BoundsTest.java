import java.util.NoSuchElementException;

/** What the numbers of all promises lie between: the least and the greatest are taken, one beyond them is refused. */
public final class BoundsTest {
    private static final Checks checks = new Checks();

    private interface Call {
        void with(Replen x, int number);
    }

    private interface OfLine {
        void of(Replen x, int shop, int item);
    }

    private record LineCall(String name, OfLine call) {
    }

    private static final LineCall[] LINE_CALLS = {
        new LineCall("5 carries", (x, shop, item) -> x.carries(shop, item)),
        new LineCall("11 demand", (x, shop, item) -> x.demand(shop, item, 1)),
        new LineCall("14 demandToday", (x, shop, item) -> x.demandToday(shop, item)),
        new LineCall("15 level", (x, shop, item) -> x.level(shop, item)),
        new LineCall("16 levelByDays", (x, shop, item) -> x.levelByDays(shop, item)),
        new LineCall("17 season", (x, shop, item) -> x.season(shop, item, 0)),
        new LineCall("18 forecast", (x, shop, item) -> x.forecast(shop, item, 9)),
        new LineCall("19 errors", (x, shop, item) -> x.errors(shop, item, 0)),
        new LineCall("20 safety", (x, shop, item) -> x.safety(shop, item)),
        new LineCall("21 stock", (x, shop, item) -> x.stock(shop, item)),
        new LineCall("22 stockByJournal", (x, shop, item) -> x.stockByJournal(shop, item)),
        new LineCall("23 onWay", (x, shop, item) -> x.onWay(shop, item)),
        new LineCall("24 nextArrival", (x, shop, item) -> x.nextArrival(shop, item)),
        new LineCall("25 need", (x, shop, item) -> x.need(shop, item)),
        new LineCall("26 request", (x, shop, item) -> x.request(shop, item)),
        new LineCall("27 share", (x, shop, item) -> x.share(shop, item)),
        new LineCall("28 shareByPacks", (x, shop, item) -> x.shareByPacks(shop, item)),
        new LineCall("31 sold", (x, shop, item) -> x.sold(shop, item)),
        new LineCall("32 lost", (x, shop, item) -> x.lost(shop, item)),
    };

    public static void main(String[] args) {
        shopsAndItems();
        settings();
        days();
        lines();
        mostShops();
        mostItems();
        mostLines();
        shopNumbers();
        itemNumbers();
        linesNotCarried();
        centreTooGreat();
        demandTooGreat();
        checks.end();
    }

    /** Two shops and two items, all carried but by the second shop the second item; on the day 0. */
    private static Replen ready() {
        Replen x = new Replen();
        x.addShop(1);
        x.addShop(2);
        x.addItem(1, 100);
        x.addItem(2, 100);
        x.carry(0, 0, 5, 1000);
        x.carry(0, 1, 5, 1000);
        x.carry(1, 0, 5, 1000);
        return x;
    }

    private static Replen readyOn(int day) {
        Replen x = ready();
        while (x.today() < day) {
            x.night();
        }
        return x;
    }

    private static void between(String what, int day, int least, int most, Call call) {
        int[] taken = {least, least + 1, most - 1, most};
        int[] refused = {Integer.MIN_VALUE, least - 1, most + 1, Integer.MAX_VALUE};
        for (int number : taken) {
            String got = "taken";
            try {
                call.with(readyOn(day), number);
            } catch (RuntimeException e) {
                got = e.toString();
            }
            checks.same(what + " " + number, got, "taken");
        }
        for (int number : refused) {
            Replen x = readyOn(day);
            checks.fails(what + " " + number, IllegalArgumentException.class, () -> call.with(x, number));
        }
    }

    private static void shopsAndItems() {
        between("2 lead time", 0, 1, 5, (x, lead) -> x.addShop(lead));
        between("3 pack size", 0, 1, 50, (x, pack) -> x.addItem(pack, 7));
        between("3 stock", 0, 0, 9999, (x, stock) -> x.addItem(7, stock));
        between("4 stock", 0, 0, 999, (x, stock) -> x.carry(1, 1, stock, 7));
        between("4 level", 0, 0, 99999, (x, level) -> x.carry(1, 1, 7, level));
        between("6 number", 0, 1, 9999, (x, units) -> x.supply(1, units));
    }

    private static void settings() {
        between("7 service", 0, 1, 100, (x, percent) -> x.setService(percent));
        between("8 level rate", 0, 0, 100, (x, rate) -> x.setRates(rate, 7));
        between("8 season rate", 0, 0, 100, (x, rate) -> x.setRates(7, rate));
    }

    private static void days() {
        between("9 day, today is 0", 0, 0, 999, (x, day) -> x.mark(1, day));
        between("9 day, today is 3", 3, 3, 999, (x, day) -> x.mark(1, day));
        between("10 day, today is 0", 0, 0, 999, (x, day) -> x.isMarked(1, day));
        between("10 day, today is 3", 3, 0, 999, (x, day) -> x.isMarked(1, day));
        between("18 day, today is 0", 0, 0, 1099, (x, day) -> x.forecast(1, 0, day));
        between("18 day, today is 3", 3, 3, 1099, (x, day) -> x.forecast(1, 0, day));
    }

    private static void lines() {
        between("11 number", 0, 1, 99, (x, units) -> x.demand(1, 0, units));
        between("17 weekday", 0, 0, 6, (x, weekday) -> x.season(1, 0, weekday));
        between("19 error", 0, 0, 20, (x, size) -> x.errors(1, 0, size));
    }

    private static void mostShops() {
        Replen x = new Replen();
        for (int shop = 0; shop < 4; shop++) {
            checks.same("2 numbers in the order of adding", x.addShop(4 - shop), shop);
        }
        checks.fails("2 a fifth shop", IllegalStateException.class, () -> x.addShop(1));
        checks.fails("2 a fifth shop again", IllegalStateException.class, () -> x.addShop(5));
        x.addItem(1, 4);
        checks.fails("2 no shop 4", IndexOutOfBoundsException.class, () -> x.carries(4, 0));
        checks.same("2 four shops don't fill the items", x.addItem(1, 0), 1);
        for (int shop = 0; shop < 4; shop++) {
            x.carry(shop, 0, 0, 1);
        }
        x.mark(0, 0);
        checks.same("12 a pack for each", x.night(), 4);
        for (int shop = 0; shop < 4; shop++) {
            checks.same("2 each has its lead time", x.nextArrival(shop, 0), 1 + 4 - shop);
        }
    }

    private static void mostItems() {
        Replen x = new Replen();
        for (int item = 0; item < 5; item++) {
            checks.same("3 numbers in the order of adding", x.addItem(1 + item, 20 + item), item);
        }
        checks.fails("3 a sixth item", IllegalStateException.class, () -> x.addItem(1, 0));
        checks.fails("3 a sixth item again", IllegalStateException.class, () -> x.addItem(50, 9999));
        checks.fails("3 no item 5", IndexOutOfBoundsException.class, () -> x.centre(5));
        checks.same("3 five items don't fill the shops", x.addShop(1), 0);
        for (int item = 0; item < 5; item++) {
            checks.same("3 each has its stock", x.centre(item), 20 + item);
            x.carry(0, item, 0, 10000);
            checks.same("3 each has its pack size", x.request(0, item), (20 + item) / (1 + item));
        }
    }

    private static void mostLines() {
        Replen x = full(4, 5, 9);
        for (int shop = 0; shop < 4; shop++) {
            for (int item = 0; item < 5; item++) {
                int otherShop = shop;
                int otherItem = item;
                checks.fails("4 every line again", IllegalStateException.class,
                    () -> x.carry(otherShop, otherItem, 0, 0));
            }
        }
        checks.same("23 the last line", x.onWay(3, 4), 1);
    }

    /** So many shops and items, all carried, with something on its way to each, on the day 1. */
    private static Replen full(int shops, int items, int level) {
        Replen x = new Replen();
        for (int shop = 0; shop < shops; shop++) {
            x.addShop(5);
        }
        int lines = 0;
        for (int item = 0; item < items; item++) {
            x.addItem(1, 100);
            for (int shop = 0; shop < shops; shop++) {
                lines++;
                checks.same("4 number of lines", x.carry(shop, item, 0, level), lines);
            }
        }
        x.night();
        return x;
    }

    private static void taken(String what, LineCall line, Replen x, int shop, int item) {
        String got = "taken";
        try {
            line.call.of(x, shop, item);
        } catch (RuntimeException e) {
            got = e.toString();
        }
        checks.same(line.name + what, got, "taken");
    }

    private static void noSuch(String what, LineCall line, Replen x, int shop, int item) {
        checks.fails(line.name + what, IndexOutOfBoundsException.class, () -> line.call.of(x, shop, item));
    }

    /** Of n shops the numbers go from 0 to n - 1, for each n. */
    private static void shopNumbers() {
        for (int shops = 1; shops <= 4; shops++) {
            Replen x = full(shops, 1, 9);
            for (LineCall line : LINE_CALLS) {
                taken(" first shop of " + shops, line, x, 0, 0);
                taken(" last shop of " + shops, line, x, shops - 1, 0);
                for (int shop : new int[] {shops, 4, 5, -1, Integer.MIN_VALUE, Integer.MAX_VALUE}) {
                    noSuch(" shop " + shop + " of " + shops, line, x, shop, 0);
                }
            }
            for (int shop : new int[] {shops, -1, Integer.MIN_VALUE, Integer.MAX_VALUE}) {
                checks.fails("4 shop " + shop, IndexOutOfBoundsException.class, () -> x.carry(shop, 0, 1, 1));
                checks.fails("34 shop " + shop, IndexOutOfBoundsException.class, () -> x.service(shop));
            }
            checks.same("34 last shop", x.service(shops - 1), 0.0f);
        }
    }

    /** Of n items the numbers go from 0 to n - 1, for each n. */
    private static void itemNumbers() {
        for (int items = 1; items <= 5; items++) {
            Replen x = full(1, items, 9);
            for (LineCall line : LINE_CALLS) {
                taken(" first item of " + items, line, x, 0, 0);
                taken(" last item of " + items, line, x, 0, items - 1);
                for (int item : new int[] {items, -1, Integer.MIN_VALUE, Integer.MAX_VALUE}) {
                    noSuch(" item " + item + " of " + items, line, x, 0, item);
                }
            }
            int last = items - 1;
            checks.same("6 last item", x.supply(last, 7), x.centre(last));
            checks.same("9 last item", x.mark(last, 7), false);
            checks.same("10 last item", x.isMarked(last, 7), true);
            checks.same("30 last item", x.centreByJournal(last), x.centre(last));
            for (int item : new int[] {items, -1, Integer.MIN_VALUE, Integer.MAX_VALUE}) {
                noSuchItem(x, item);
            }
        }
    }

    private static void noSuchItem(Replen x, int item) {
        checks.fails("4 item " + item, IndexOutOfBoundsException.class, () -> x.carry(0, item, 1, 1));
        checks.fails("6 item " + item, IndexOutOfBoundsException.class, () -> x.supply(item, 1));
        checks.fails("9 item " + item, IndexOutOfBoundsException.class, () -> x.mark(item, 9));
        checks.fails("10 item " + item, IndexOutOfBoundsException.class, () -> x.isMarked(item, 9));
        checks.fails("29 item " + item, IndexOutOfBoundsException.class, () -> x.centre(item));
        checks.fails("30 item " + item, IndexOutOfBoundsException.class, () -> x.centreByJournal(item));
    }

    private static void linesNotCarried() {
        Replen x = ready();
        checks.same("5 not carried", x.carries(1, 1), false);
        checks.same("5 carried", x.carries(0, 1), true);
        for (LineCall line : LINE_CALLS) {
            if (!line.name.equals("5 carries")) {
                checks.fails(line.name + " not carried", NoSuchElementException.class, () -> line.call.of(x, 1, 1));
            }
        }
        x.carry(1, 1, 0, 0);
        checks.same("5 carried then", x.carries(1, 1), true);
        checks.same("21 carried then", x.stock(1, 1), 0);
    }

    private static Replen centreOf(int units) {
        Replen x = new Replen();
        x.addItem(1, units % 9999);
        for (int times = 0; times < units / 9999; times++) {
            x.supply(0, 9999);
        }
        checks.same("6 central stock", x.centre(0), units);
        return x;
    }

    private static void centreTooGreat() {
        checks.same("6 99998 and 1", centreOf(99998).supply(0, 1), 99999);
        checks.same("6 90000 and 9999", centreOf(90000).supply(0, 9999), 99999);
        checks.fails("6 99998 and 2", IllegalStateException.class, () -> centreOf(99998).supply(0, 2));
        checks.fails("6 99999 and 1", IllegalStateException.class, () -> centreOf(99999).supply(0, 1));
        checks.fails("6 90001 and 9999", IllegalStateException.class, () -> centreOf(90001).supply(0, 9999));
        Replen x = centreOf(99999);
        x.addShop(1);
        x.carry(0, 0, 0, 500);
        x.mark(0, 0);
        checks.same("12 a pack leaves", x.night(), 1);
        checks.fails("6 no room for 2", IllegalStateException.class, () -> x.supply(0, 2));
        checks.same("6 room for 1 again", x.supply(0, 1), 99999);
        x.addItem(1, 9999);
        checks.same("6 each item has its own room", x.supply(1, 9999), 19998);
    }

    private static Replen demandOf(int units) {
        Replen x = ready();
        Planners.bring(x, 0, 0, units);
        checks.same("14 demand today", x.demandToday(0, 0), units);
        return x;
    }

    private static void demandTooGreat() {
        checks.same("11 998 and 1", demandOf(998).demand(0, 0, 1), 0);
        checks.same("11 900 and 99", demandOf(900).demand(0, 0, 99), 0);
        checks.fails("11 998 and 2", UnsupportedOperationException.class, () -> demandOf(998).demand(0, 0, 2));
        checks.fails("11 999 and 1", UnsupportedOperationException.class, () -> demandOf(999).demand(0, 0, 1));
        checks.fails("11 901 and 99", UnsupportedOperationException.class, () -> demandOf(901).demand(0, 0, 99));
        Replen x = demandOf(999);
        checks.same("11 other item of the shop", x.demand(0, 1, 5), 5);
        checks.same("11 other shop of the item", x.demand(1, 0, 5), 5);
        x.night();
        checks.same("14 none on the next day", x.demandToday(0, 0), 0);
        Planners.bring(x, 0, 0, 999);
        checks.same("14 999 on the next day too", x.demandToday(0, 0), 999);
        checks.fails("11 1000 there", UnsupportedOperationException.class, () -> x.demand(0, 0, 1));
    }
}
