import java.util.NoSuchElementException;
import java.util.function.Supplier;

/**
 * Of several exceptions that apply the one listed first is thrown, and a call that throws changes nothing: neither
 * what can be read at once, nor what days and nights make of it.
 */
public final class RefusedCallsTest {
    private static final Checks checks = new Checks();
    private static final Class<IllegalArgumentException> ARGUMENT = IllegalArgumentException.class;
    private static final Class<IllegalStateException> STATE = IllegalStateException.class;
    private static final Class<IndexOutOfBoundsException> INDEX = IndexOutOfBoundsException.class;
    private static final Class<NoSuchElementException> ELEMENT = NoSuchElementException.class;
    private static final Class<UnsupportedOperationException> UNSUPPORTED = UnsupportedOperationException.class;
    private static final int TODAY = 8;

    private interface Call {
        void with(Replen x);
    }

    private interface OfLine {
        void of(Replen x, int shop, int item);
    }

    /** A way to make a planner, with what it answers when nothing was refused. */
    private static final class Before {
        final Supplier<Replen> maker;
        final int shops;
        final int items;
        final String now;
        final String later;

        Before(Supplier<Replen> maker, int shops, int items) {
            this.maker = maker;
            this.shops = shops;
            this.items = items;
            now = Snapshot.of(maker.get(), shops, items);
            later = afterDays(maker.get());
        }

        String afterDays(Replen x) {
            for (int day = 0; day < 8; day++) {
                x.night();
                x.demand(0, 0, 7);
                x.demand(1, 0, 3);
            }
            return Snapshot.of(x, shops, items);
        }

        void refuses(String what, Class<? extends RuntimeException> due, Call call) {
            Replen x = maker.get();
            checks.fails(what, due, () -> call.with(x));
            checks.same(what + " changes nothing", Snapshot.of(x, shops, items), now);
            Replen y = maker.get();
            checks.fails(what + " again", due, () -> call.with(y));
            checks.same(what + " changes nothing later", afterDays(y), later);
        }
    }

    public static void main(String[] args) {
        Before roomy = new Before(() -> roomy(), 2, 2);
        Before full = new Before(() -> full(), 4, 5);
        checks.same("the days change something", roomy.now.equals(roomy.later), false);
        additions(roomy, full);
        carry(roomy);
        supply(roomy, full);
        settings(roomy);
        marks(roomy);
        demand(roomy, full);
        looksAtLines(roomy);
        looksWithNumber(roomy);
        looks(roomy);
        nightOfLastDay();
        checks.end();
    }

    /** Two shops and two items, room for more; the second shop doesn't carry the second item; on the day 8. */
    private static Replen roomy() {
        Replen x = new Replen();
        x.addShop(2);
        x.addShop(5);
        x.addItem(3, 500);
        x.addItem(1, 9000);
        x.carry(0, 0, 20, 5000);
        x.carry(1, 0, 0, 3000);
        x.carry(0, 1, 999, 0);
        x.setRates(33, 44);
        x.setService(77);
        x.mark(0, 3);
        for (int day = 0; day < TODAY; day++) {
            x.demand(0, 0, 3 + day);
            x.demand(1, 0, 9 - day);
            x.night();
        }
        x.mark(0, TODAY + 1);
        x.demand(0, 0, 4);
        Planners.bring(x, 0, 1, 950);
        return x;
    }

    /** All shops and items, a third shop to which no demand came, and the first central stock at its greatest. */
    private static Replen full() {
        Replen x = roomy();
        for (int shop = 2; shop < 4; shop++) {
            x.addShop(1);
        }
        for (int item = 2; item < 5; item++) {
            x.addItem(1, 0);
        }
        while (x.centre(0) < 99999) {
            x.supply(0, Math.min(9999, 99999 - x.centre(0)));
        }
        return x;
    }

    private static void additions(Before roomy, Before full) {
        roomy.refuses("2 lead time 0", ARGUMENT, x -> x.addShop(0));
        roomy.refuses("2 lead time 6", ARGUMENT, x -> x.addShop(6));
        full.refuses("2 there are 4", STATE, x -> x.addShop(1));
        full.refuses("2 lead time 0, there are 4", ARGUMENT, x -> x.addShop(0));
        full.refuses("2 lead time 6, there are 4", ARGUMENT, x -> x.addShop(6));
        roomy.refuses("3 pack size 0", ARGUMENT, x -> x.addItem(0, 5));
        roomy.refuses("3 pack size 51", ARGUMENT, x -> x.addItem(51, 5));
        roomy.refuses("3 stock -1", ARGUMENT, x -> x.addItem(5, -1));
        roomy.refuses("3 stock 10000", ARGUMENT, x -> x.addItem(5, 10000));
        roomy.refuses("3 both", ARGUMENT, x -> x.addItem(51, 10000));
        full.refuses("3 there are 5", STATE, x -> x.addItem(5, 5));
        full.refuses("3 pack size 0, there are 5", ARGUMENT, x -> x.addItem(0, 5));
        full.refuses("3 stock 10000, there are 5", ARGUMENT, x -> x.addItem(5, 10000));
    }

    private static void carry(Before roomy) {
        roomy.refuses("4 shop", INDEX, x -> x.carry(2, 1, 5, 5));
        roomy.refuses("4 item", INDEX, x -> x.carry(1, 2, 5, 5));
        roomy.refuses("4 shop and item", INDEX, x -> x.carry(-1, -1, 5, 5));
        roomy.refuses("4 shop, stock", INDEX, x -> x.carry(2, 1, 1000, 5));
        roomy.refuses("4 shop, level", INDEX, x -> x.carry(-1, 1, 5, 100000));
        roomy.refuses("4 item, stock", INDEX, x -> x.carry(1, 2, -1, 5));
        roomy.refuses("4 item, level", INDEX, x -> x.carry(1, -1, 5, -1));
        roomy.refuses("4 stock -1", ARGUMENT, x -> x.carry(1, 1, -1, 5));
        roomy.refuses("4 stock 1000", ARGUMENT, x -> x.carry(1, 1, 1000, 5));
        roomy.refuses("4 level -1", ARGUMENT, x -> x.carry(1, 1, 5, -1));
        roomy.refuses("4 level 100000", ARGUMENT, x -> x.carry(1, 1, 5, 100000));
        roomy.refuses("4 carried", STATE, x -> x.carry(0, 0, 5, 5));
        roomy.refuses("4 stock, carried", ARGUMENT, x -> x.carry(0, 0, 1000, 5));
        roomy.refuses("4 level, carried", ARGUMENT, x -> x.carry(0, 0, 5, -1));
        roomy.refuses("5 shop", INDEX, x -> x.carries(2, 0));
        roomy.refuses("5 item", INDEX, x -> x.carries(0, 2));
        Replen x = roomy();
        checks.fails("4 carried", STATE, () -> x.carry(0, 0, 5, 5));
        checks.fails("4 stock -1", ARGUMENT, () -> x.carry(1, 1, -1, 5));
        checks.same("4 refused lines aren't counted", x.carry(1, 1, 5, 5), 4);
    }

    private static void supply(Before roomy, Before full) {
        roomy.refuses("6 item", INDEX, x -> x.supply(2, 5));
        roomy.refuses("6 item, number", INDEX, x -> x.supply(-1, 0));
        roomy.refuses("6 number 0", ARGUMENT, x -> x.supply(0, 0));
        roomy.refuses("6 number 10000", ARGUMENT, x -> x.supply(0, 10000));
        roomy.refuses("6 greatest number", ARGUMENT, x -> x.supply(0, Integer.MAX_VALUE));
        full.refuses("6 100000", STATE, x -> x.supply(0, 1));
        full.refuses("6 99999 and 9999", STATE, x -> x.supply(0, 9999));
        full.refuses("6 number, 99999 and 10000", ARGUMENT, x -> x.supply(0, 10000));
        full.refuses("6 item, number of a full planner", INDEX, x -> x.supply(5, 10000));
    }

    private static void settings(Before roomy) {
        roomy.refuses("7 service 0", ARGUMENT, x -> x.setService(0));
        roomy.refuses("7 service 101", ARGUMENT, x -> x.setService(101));
        roomy.refuses("8 level rate -1", ARGUMENT, x -> x.setRates(-1, 5));
        roomy.refuses("8 level rate 101", ARGUMENT, x -> x.setRates(101, 5));
        roomy.refuses("8 season rate -1", ARGUMENT, x -> x.setRates(5, -1));
        roomy.refuses("8 season rate 101", ARGUMENT, x -> x.setRates(5, 101));
        roomy.refuses("8 both rates", ARGUMENT, x -> x.setRates(-1, 101));
    }

    private static void marks(Before roomy) {
        roomy.refuses("9 item", INDEX, x -> x.mark(2, TODAY));
        roomy.refuses("9 item, day before today", INDEX, x -> x.mark(-1, TODAY - 1));
        roomy.refuses("9 item, day 1000", INDEX, x -> x.mark(2, 1000));
        roomy.refuses("9 day before today", ARGUMENT, x -> x.mark(0, TODAY - 1));
        roomy.refuses("9 day before today, marked", ARGUMENT, x -> x.mark(0, 3));
        roomy.refuses("9 day 1000", ARGUMENT, x -> x.mark(0, 1000));
        roomy.refuses("10 item", INDEX, x -> x.isMarked(2, TODAY));
        roomy.refuses("10 item, day", INDEX, x -> x.isMarked(-1, -1));
        roomy.refuses("10 day -1", ARGUMENT, x -> x.isMarked(0, -1));
        roomy.refuses("10 day 1000", ARGUMENT, x -> x.isMarked(0, 1000));
    }

    /** The line of the demand that is too great still has 49 units, none of which is sold. */
    private static void demand(Before roomy, Before full) {
        checks.same("the stock of it", roomy().stock(0, 1), 49);
        roomy.refuses("11 shop", INDEX, x -> x.demand(2, 0, 5));
        roomy.refuses("11 item", INDEX, x -> x.demand(0, -1, 5));
        roomy.refuses("11 shop, number", INDEX, x -> x.demand(-1, 0, 0));
        roomy.refuses("11 item, number", INDEX, x -> x.demand(0, 2, 100));
        roomy.refuses("11 line", ELEMENT, x -> x.demand(1, 1, 5));
        roomy.refuses("11 line, number 0", ELEMENT, x -> x.demand(1, 1, 0));
        roomy.refuses("11 line, number 100", ELEMENT, x -> x.demand(1, 1, 100));
        roomy.refuses("11 number 0", ARGUMENT, x -> x.demand(0, 0, 0));
        roomy.refuses("11 number 100", ARGUMENT, x -> x.demand(0, 0, 100));
        roomy.refuses("11 number 100, 1050", ARGUMENT, x -> x.demand(0, 1, 100));
        roomy.refuses("11 greatest number", ARGUMENT, x -> x.demand(0, 1, Integer.MAX_VALUE));
        roomy.refuses("11 1000", UNSUPPORTED, x -> x.demand(0, 1, 50));
        full.refuses("11 1049", UNSUPPORTED, x -> x.demand(0, 1, 99));
    }

    private static void lookAtLine(Before roomy, String what, OfLine call) {
        roomy.refuses(what + " shop", INDEX, x -> call.of(x, 2, 0));
        roomy.refuses(what + " item", INDEX, x -> call.of(x, 0, 2));
        roomy.refuses(what + " shop and item", INDEX, x -> call.of(x, -1, -1));
        roomy.refuses(what + " line", ELEMENT, x -> call.of(x, 1, 1));
    }

    private static void looksAtLines(Before roomy) {
        lookAtLine(roomy, "14", (x, shop, item) -> x.demandToday(shop, item));
        lookAtLine(roomy, "15", (x, shop, item) -> x.level(shop, item));
        lookAtLine(roomy, "16", (x, shop, item) -> x.levelByDays(shop, item));
        lookAtLine(roomy, "20", (x, shop, item) -> x.safety(shop, item));
        lookAtLine(roomy, "21", (x, shop, item) -> x.stock(shop, item));
        lookAtLine(roomy, "22", (x, shop, item) -> x.stockByJournal(shop, item));
        lookAtLine(roomy, "23", (x, shop, item) -> x.onWay(shop, item));
        lookAtLine(roomy, "24", (x, shop, item) -> x.nextArrival(shop, item));
        lookAtLine(roomy, "25", (x, shop, item) -> x.need(shop, item));
        lookAtLine(roomy, "26", (x, shop, item) -> x.request(shop, item));
        lookAtLine(roomy, "27", (x, shop, item) -> x.share(shop, item));
        lookAtLine(roomy, "28", (x, shop, item) -> x.shareByPacks(shop, item));
        lookAtLine(roomy, "31", (x, shop, item) -> x.sold(shop, item));
        lookAtLine(roomy, "32", (x, shop, item) -> x.lost(shop, item));
    }

    /** With a third number that is wrong too, and with a right one. */
    private static void looksWithNumber(Before roomy) {
        for (int weekday : new int[] {-1, 0, 7}) {
            lookAtLine(roomy, "17 weekday " + weekday, (x, shop, item) -> x.season(shop, item, weekday));
        }
        roomy.refuses("17 weekday -1", ARGUMENT, x -> x.season(0, 0, -1));
        roomy.refuses("17 weekday 7", ARGUMENT, x -> x.season(0, 0, 7));
        for (int day : new int[] {TODAY - 1, TODAY, 1100}) {
            lookAtLine(roomy, "18 day " + day, (x, shop, item) -> x.forecast(shop, item, day));
        }
        roomy.refuses("18 day before today", ARGUMENT, x -> x.forecast(0, 0, TODAY - 1));
        roomy.refuses("18 day 1100", ARGUMENT, x -> x.forecast(0, 0, 1100));
        for (int size : new int[] {-1, 0, 21}) {
            lookAtLine(roomy, "19 error " + size, (x, shop, item) -> x.errors(shop, item, size));
        }
        roomy.refuses("19 error -1", ARGUMENT, x -> x.errors(0, 0, -1));
        roomy.refuses("19 error 21", ARGUMENT, x -> x.errors(0, 0, 21));
    }

    private static void looks(Before roomy) {
        roomy.refuses("24 nothing on its way", ELEMENT, x -> x.nextArrival(0, 1));
        roomy.refuses("29 item", INDEX, x -> x.centre(2));
        roomy.refuses("30 item", INDEX, x -> x.centreByJournal(-1));
        roomy.refuses("34 shop", INDEX, x -> x.service(2));
        new Before(() -> full(), 4, 5).refuses("34 no demand", ELEMENT, x -> x.service(2));
    }

    /** Beyond the 512 calls of the document, as the day 999 can't be reached within them. */
    private static void nightOfLastDay() {
        Replen x = onLastDay();
        checks.fails("12 day 999", STATE, () -> x.night());
        checks.fails("12 day 999 again", STATE, () -> x.night());
        checks.same("12 day 999 changes nothing", lastDay(x), lastDay(onLastDay()));
    }

    private static Replen onLastDay() {
        Replen x = roomy();
        while (x.today() < 999) {
            x.demand(0, 0, 9);
            x.night();
        }
        x.demand(0, 0, 9);
        return x;
    }

    private static String lastDay(Replen x) {
        StringBuilder text = new StringBuilder();
        int[] numbers = {x.today(), x.demandToday(0, 0), x.level(0, 0), x.season(0, 0, 5), x.errors(0, 0, 0),
            x.stock(0, 0), x.onWay(0, 0), x.centre(0), x.sold(0, 0), x.lost(0, 0), x.need(0, 0), x.share(0, 0)};
        for (int number : numbers) {
            text.append(number).append(' ');
        }
        return text.toString();
    }
}
