import java.util.NoSuchElementException;

/** Promises 21 to 30: orders. */
public final class OrdersTest {
    private static final Checks checks = new Checks();

    public static void main(String[] args) {
        stocks();
        ways();
        needs();
        requests();
        shares();
        sharesOfEqualRequests();
        sharesOfGreatRequests();
        sharesOfItems();
        centres();
        wrongLines();
        checks.end();
    }

    /** Shops with these leads, all carrying one item, that learn nothing and want level * (lead + 1) units. */
    private static Replen shopsOfOneItem(int pack, int centre, int[] leads, int[] levels) {
        Replen x = new Replen();
        x.setRates(0, 0);
        x.addItem(pack, centre);
        for (int shop = 0; shop < leads.length; shop++) {
            x.addShop(leads[shop]);
            x.carry(shop, 0, 0, levels[shop]);
        }
        return x;
    }

    private static void stocks() {
        Replen x = new Replen();
        x.addShop(2);
        x.addItem(3, 100);
        x.carry(0, 0, 10, 4000);
        x.setRates(0, 0);
        checks.same("21 at first", x.stock(0, 0), 10);
        checks.same("22 at first", x.stockByJournal(0, 0), 10);
        x.demand(0, 0, 4);
        x.demand(0, 0, 4);
        checks.same("21 sold", x.stock(0, 0), 2);
        checks.same("22 sold", x.stockByJournal(0, 0), 2);
        x.demand(0, 0, 4);
        checks.same("21 none left", x.stock(0, 0), 0);
        checks.same("22 none left", x.stockByJournal(0, 0), 0);
        x.night();
        checks.same("23 forecast 12 + error 8", x.onWay(0, 0), 21);
        x.night();
        checks.same("21 not yet", x.stock(0, 0), 0);
        checks.same("22 not yet", x.stockByJournal(0, 0), 0);
        x.night();
        checks.same("21 arrived", x.stock(0, 0), 21);
        checks.same("22 arrived", x.stockByJournal(0, 0), 21);
        x.demand(0, 0, 20);
        checks.same("21 sold again", x.stock(0, 0), 1);
        checks.same("22 sold again", x.stockByJournal(0, 0), 1);
    }

    private static void ways() {
        Replen x = shopsOfOneItem(1, 100, new int[] {5}, new int[] {1000});
        checks.same("23 nothing", x.onWay(0, 0), 0);
        checks.fails("24 nothing", NoSuchElementException.class, () -> x.nextArrival(0, 0));
        x.night();
        checks.same("23 first: 6 + error 1", x.onWay(0, 0), 7);
        checks.same("24 first", x.nextArrival(0, 0), 6);
        x.night();
        checks.same("23 no more is needed", x.onWay(0, 0), 7);
        x.demand(0, 0, 4);
        x.night();
        checks.same("23 error 3", x.onWay(0, 0), 9);
        checks.same("24 still the first", x.nextArrival(0, 0), 6);
        x.night();
        x.night();
        checks.same("13 today", x.today(), 5);
        x.night();
        checks.same("21 first arrived", x.stock(0, 0), 7);
        checks.same("23 second", x.onWay(0, 0), 2);
        checks.same("24 second", x.nextArrival(0, 0), 8);
        x.night();
        x.night();
        checks.same("21 second arrived", x.stock(0, 0), 9);
        checks.fails("24 nothing again", NoSuchElementException.class, () -> x.nextArrival(0, 0));
    }

    private static void needs() {
        Replen x = shopsOfOneItem(1, 0, new int[] {1, 2, 5}, new int[] {1, 7000, 100});
        checks.same("25 0.002 up", x.need(0, 0), 1);
        checks.same("25 whole", x.need(1, 0), 21);
        checks.same("25 0.6 up", x.need(2, 0), 1);
        x.addItem(7, 50);
        x.carry(0, 1, 999, 500);
        checks.same("25 less than 0", x.need(0, 1), 1 - 999);
        checks.same("26 none", x.request(0, 1), 0);
        x.carry(1, 1, 5, 2000);
        x.demand(1, 1, 9);
        checks.same("25 stock", x.need(1, 1), 6);
        checks.same("26 up to packs", x.request(1, 1), 1);
        x.night();
        checks.same("25 safety 7, on its way 14", x.need(1, 1), 6 + 7 - 14);

        Replen seasons = shopsOfOneItem(1, 0, new int[] {2}, new int[] {10000});
        seasons.setRates(0, 10);
        seasons.setService(1);
        for (int day = 0; day < 5; day++) {
            seasons.demand(0, 0, day == 1 ? 20 : 10);
            seasons.night();
        }
        checks.same("25 the weekdays 5, 6, 0", seasons.need(0, 0), 30);
        seasons.demand(0, 0, 10);
        seasons.night();
        checks.same("25 the weekdays 6, 0, 1", seasons.need(0, 0), 31);
    }

    private static void requests() {
        Replen x = shopsOfOneItem(10, 0, new int[] {1, 1, 1, 1}, new int[] {5000, 5001, 0, 99999});
        checks.same("26 just one", x.request(0, 0), 1);
        checks.same("26 one more", x.request(1, 0), 2);
        checks.same("26 need 0", x.request(2, 0), 0);
        checks.same("26 200 units", x.request(3, 0), 20);
        checks.same("25 200 units", x.need(3, 0), 200);
    }

    private static void both(Replen x, int shop, int due) {
        checks.same("27 of shop " + shop, x.share(shop, 0), due);
        checks.same("28 of shop " + shop, x.shareByPacks(shop, 0), due);
    }

    private static void shares() {
        Replen x = shopsOfOneItem(4, 31, new int[] {1, 2, 1}, new int[] {13000, 8000, 0});
        checks.same("26 first", x.request(0, 0), 7);
        checks.same("26 second", x.request(1, 0), 6);
        both(x, 0, 4);
        both(x, 1, 3);
        both(x, 2, 0);
        x.supply(0, 1);
        both(x, 0, 4);
        both(x, 1, 4);
        x.supply(0, 16);
        both(x, 0, 6);
        both(x, 1, 6);
        x.supply(0, 4);
        both(x, 0, 7);
        both(x, 1, 6);
        x.supply(0, 40);
        both(x, 0, 7);
        both(x, 1, 6);
        checks.same("12 shares leave", x.night(), 18);
        checks.same("23 first: need 26 + error 13", x.onWay(0, 0), 40);
        checks.same("23 second: need 24 + error 8", x.onWay(1, 0), 32);
        checks.same("23 third", x.onWay(2, 0), 0);
        checks.same("29 left", x.centre(0), 20);
    }

    private static void sharesOfEqualRequests() {
        Replen x = shopsOfOneItem(5, 4, new int[] {4, 1, 1, 4}, new int[] {3000, 7500, 7500, 3000});
        for (int shop = 0; shop < 4; shop++) {
            checks.same("26 equal", x.request(shop, 0), 3);
            both(x, shop, 0);
        }
        for (int packs = 1; packs <= 14; packs++) {
            x.supply(0, packs == 1 ? 1 : 5);
            for (int shop = 0; shop < 4; shop++) {
                both(x, shop, Math.min(3, (packs + 3 - shop) / 4));
            }
        }
    }

    private static void sharesOfGreatRequests() {
        Replen x = shopsOfOneItem(1, 0, new int[] {5, 5}, new int[] {1, 1});
        x.setRates(0, 100);
        x.night();
        x.setRates(0, 0);
        for (int nights = 0; nights < 6; nights++) {
            x.night();
        }
        for (int shop = 0; shop < 2; shop++) {
            for (int times = 0; times < 10; times++) {
                x.demand(shop, 0, 99);
            }
            x.demand(shop, 0, 9);
        }
        x.setRates(100, 0);
        x.night();
        for (int times = 0; times < 10; times++) {
            x.supply(0, 9999);
        }
        checks.same("26 great", x.request(0, 0), 59960);
        checks.same("26 great too", x.request(1, 0), 59960);
        x.supply(0, 9);
        both(x, 0, 50000);
        both(x, 1, 49999);
        x.setRates(0, 0);
        checks.same("12 all packs", x.night(), 99999);
        checks.same("23 first", x.onWay(0, 0), 50000);
        checks.same("23 second", x.onWay(1, 0), 49999);
    }

    private static void sharesOfItems() {
        Replen x = shopsOfOneItem(2, 10, new int[] {1, 1}, new int[] {3000, 3000});
        x.addItem(5, 20);
        x.carry(1, 1, 0, 9000);
        both(x, 0, 3);
        both(x, 1, 2);
        checks.same("27 other item", x.share(1, 1), 4);
        checks.same("28 other item", x.shareByPacks(1, 1), 4);
        checks.same("28 first item again", x.shareByPacks(1, 0), 2);
        checks.same("27 changes nothing", x.centre(0), 10);
        checks.same("28 changes nothing", x.onWay(0, 0), 0);
    }

    private static void centres() {
        Replen x = shopsOfOneItem(4, 30, new int[] {1}, new int[] {5000});
        checks.same("29 at first", x.centre(0), 30);
        checks.same("30 at first", x.centreByJournal(0), 30);
        x.night();
        checks.same("29 4 packs left", x.centre(0), 14);
        checks.same("30 4 packs left", x.centreByJournal(0), 14);
        x.supply(0, 7);
        checks.same("29 supplied", x.centre(0), 21);
        checks.same("30 supplied", x.centreByJournal(0), 21);
        x.supply(0, 8);
        checks.same("29 supplied twice", x.centre(0), 29);
        checks.same("30 supplied twice", x.centreByJournal(0), 29);
        x.addItem(1, 3);
        checks.same("29 other item", x.centre(1), 3);
        checks.same("30 other item", x.centreByJournal(1), 3);
        checks.fails("29 item -1", IndexOutOfBoundsException.class, () -> x.centre(-1));
        checks.fails("29 item 2", IndexOutOfBoundsException.class, () -> x.centre(2));
        checks.fails("30 item -1", IndexOutOfBoundsException.class, () -> x.centreByJournal(-1));
        checks.fails("30 item 2", IndexOutOfBoundsException.class, () -> x.centreByJournal(2));
    }

    private interface OfLine {
        int of(int shop, int item);
    }

    private static void wrongLine(String promise, OfLine call) {
        checks.fails(promise + " shop -1", IndexOutOfBoundsException.class, () -> call.of(-1, 0));
        checks.fails(promise + " shop 2", IndexOutOfBoundsException.class, () -> call.of(2, 0));
        checks.fails(promise + " item -1", IndexOutOfBoundsException.class, () -> call.of(1, -1));
        checks.fails(promise + " item 1", IndexOutOfBoundsException.class, () -> call.of(1, 1));
        checks.fails(promise + " line", NoSuchElementException.class, () -> call.of(1, 0));
    }

    private static void wrongLines() {
        Replen x = shopsOfOneItem(1, 0, new int[] {1}, new int[] {1});
        x.addShop(1);
        wrongLine("21", x::stock);
        wrongLine("22", x::stockByJournal);
        wrongLine("23", x::onWay);
        wrongLine("24", x::nextArrival);
        wrongLine("25", x::need);
        wrongLine("26", x::request);
        wrongLine("27", x::share);
        wrongLine("28", x::shareByPacks);
    }
}
