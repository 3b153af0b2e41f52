import java.util.NoSuchElementException;

/** Edges of the document's sentences on demand, orders, shares, nights and sums, each by itself. */
public final class OrderEdgesTest {
    private static final Checks checks = new Checks();

    public static void main(String[] args) {
        newObject();
        demandAndStock();
        demandOfToday();
        needRoundsUp();
        needOfEachLeadTime();
        needAroundTheWeek();
        needOfRoundedForecasts();
        needNotGreaterThanNothing();
        needLessWhatIsOnItsWay();
        requestOfPacks();
        packsThatAreWhole();
        firstPacks();
        shortCentre();
        equalQuotients();
        equalQuotientsByNumber();
        shareOfNoRequest();
        shopThatDoesNotCarry();
        enoughForAll();
        sharesBeforePacksLeave();
        nightOfNothing();
        orderOfTheNight();
        leadTimes();
        nothingOnItsWay();
        nextOfSeveral();
        journals();
        sums();
        serviceOfDemand();
        allCalls();
        checks.end();
    }

    private static void newObject() {
        Replen x = new Replen();
        checks.same("1 day", x.today(), 0);
        checks.same("33 nothing", x.units(), 0L);
        checks.fails("1 no shop", IndexOutOfBoundsException.class, () -> x.service(0));
        checks.fails("1 no item", IndexOutOfBoundsException.class, () -> x.centre(0));
        checks.fails("1 no item of the journal", IndexOutOfBoundsException.class, () -> x.centreByJournal(0));
        checks.fails("1 no line", IndexOutOfBoundsException.class, () -> x.carries(0, 0));
        checks.same("2 first number", x.addShop(1), 0);
        checks.same("3 first number", x.addItem(1, 0), 0);
        checks.same("4 first line", x.carry(0, 0, 0, 0), 1);
    }

    private static void sells(int stock, int units, int due) {
        Replen x = Planners.oneLine(1, 1, 0, stock, 0);
        checks.same("11 " + units + " of " + stock, x.demand(0, 0, units), due);
        checks.same("21 the rest stays", x.stock(0, 0), stock - due);
        checks.same("22 the rest stays", x.stockByJournal(0, 0), stock - due);
        checks.same("31 sold", x.sold(0, 0), due);
        checks.same("32 the rest is lost", x.lost(0, 0), units - due);
        checks.same("14 all of it came", x.demandToday(0, 0), units);
    }

    private static void demandAndStock() {
        sells(5, 1, 1);
        sells(5, 4, 4);
        sells(5, 5, 5);
        sells(5, 6, 5);
        sells(0, 1, 0);
        sells(0, 99, 0);
        sells(999, 99, 99);
        Replen x = Planners.oneLine(1, 1, 0, 999, 0);
        Planners.bring(x, 0, 0, 999);
        checks.same("21 all of the greatest stock", x.stock(0, 0), 0);
        checks.same("31 all of the greatest stock", x.sold(0, 0), 999);
        checks.same("32 none", x.lost(0, 0), 0);
    }

    private static void demandOfToday() {
        Replen x = Planners.oneLine(1, 1, 0, 5, 0);
        checks.same("14 none came", x.demandToday(0, 0), 0);
        x.demand(0, 0, 3);
        x.demand(0, 0, 3);
        checks.same("14 sold and lost", x.demandToday(0, 0), 6);
        x.demand(0, 0, 1);
        checks.same("14 lost alone", x.demandToday(0, 0), 7);
        x.night();
        checks.same("14 none on the next day", x.demandToday(0, 0), 0);
        x.carry(x.addShop(1), 0, 5, 0);
        x.demand(0, 0, 2);
        checks.same("14 of this line", x.demandToday(0, 0), 2);
        checks.same("14 of the other line", x.demandToday(1, 0), 0);
    }

    private static int needOf(int lead, int stock, int level) {
        return Planners.oneLine(lead, 1, 0, stock, level).need(0, 0);
    }

    private static void needRoundsUp() {
        checks.same("25 0", needOf(2, 0, 0), 0);
        checks.same("25 0.003", needOf(2, 0, 1), 1);
        checks.same("25 0.999", needOf(2, 0, 333), 1);
        checks.same("25 1.002", needOf(2, 0, 334), 2);
        checks.same("25 1.998", needOf(2, 0, 666), 2);
        checks.same("25 2.001", needOf(2, 0, 667), 3);
        checks.same("25 1.000", needOf(1, 0, 500), 1);
        checks.same("25 1.002 of two days", needOf(1, 0, 501), 2);
        checks.same("25 599.994", needOf(5, 0, 99999), 600);
        checks.same("25 499.000", needOf(4, 0, 99800), 499);
    }

    private static void needOfEachLeadTime() {
        for (int lead = 1; lead <= 5; lead++) {
            checks.same("25 today and " + lead + " days", needOf(lead, 0, 1000), lead + 1);
        }
    }

    /** The season of the weekday w is 1000 + 200 * w. */
    private static void needAroundTheWeek() {
        Replen x = Planners.oneLine(5, 1, 0, 0, 5000);
        x.setRates(0, 100);
        for (int weekday = 0; weekday < 7; weekday++) {
            Planners.day(x, 5 + weekday);
        }
        x.setService(1);
        checks.same("20 of 1", x.safety(0, 0), 0);
        int[] due = {45, 51, 50, 49, 48, 47, 46};
        for (int day = 7; day < 14; day++) {
            checks.same("25 on the day " + day, x.need(0, 0), due[day - 7]);
            Planners.dayOfPromotion(x);
        }
    }

    /** Six forecasts of 0.99 thousandths each: rounded down, nothing is left to round up. */
    private static void needOfRoundedForecasts() {
        Replen x = Planners.oneLine(5, 1, 0, 0, 1);
        x.setRates(0, 1);
        for (int day = 0; day < 7; day++) {
            x.night();
        }
        checks.same("18 0.99", x.forecast(0, 0, 7), 0);
        checks.same("25 six times 0", x.need(0, 0), 0);
    }

    private static void needNotGreaterThanNothing() {
        checks.same("25 least", needOf(1, 999, 0), -999);
        checks.same("25 -1", needOf(1, 11, 5000), -1);
        checks.same("25 0", needOf(1, 10, 5000), 0);
        checks.same("25 1", needOf(1, 9, 5000), 1);
        for (int stock = 10; stock < 12; stock++) {
            Replen x = Planners.oneLine(1, 1, 100, stock, 5000);
            checks.same("26 none", x.request(0, 0), 0);
            checks.same("27 none", x.share(0, 0), 0);
            checks.same("28 none", x.shareByPacks(0, 0), 0);
            x.mark(0, 0);
            checks.same("12 none", x.night(), 0);
            checks.same("29 all stay", x.centre(0), 100);
        }
    }

    private static void needLessWhatIsOnItsWay() {
        Replen x = Planners.oneLine(3, 5, 10, 0, 2000);
        checks.same("25 at first", x.need(0, 0), 8);
        Planners.dayOfPromotion(x);
        checks.same("23 two packs", x.onWay(0, 0), 10);
        checks.same("25 two packs on their way", x.need(0, 0), -2);
        for (int day = 1; day < 4; day++) {
            Planners.dayOfPromotion(x);
        }
        checks.same("21 arrived", x.stock(0, 0), 10);
        checks.same("25 in the stock", x.need(0, 0), -2);
        x.demand(0, 0, 3);
        checks.same("25 three less", x.need(0, 0), 1);
    }

    private static int requestOf(int pack, int need) {
        Replen x = Planners.needing(pack, 0, need);
        checks.same("25 need", x.need(0, 0), need);
        return x.request(0, 0);
    }

    private static void requestOfPacks() {
        checks.same("26 0 by 10", requestOf(10, 0), 0);
        checks.same("26 1 by 10", requestOf(10, 1), 1);
        checks.same("26 9 by 10", requestOf(10, 9), 1);
        checks.same("26 10 by 10", requestOf(10, 10), 1);
        checks.same("26 11 by 10", requestOf(10, 11), 2);
        checks.same("26 20 by 10", requestOf(10, 20), 2);
        checks.same("26 1 by 1", requestOf(1, 1), 1);
        checks.same("26 199 by 1", requestOf(1, 199), 199);
        checks.same("26 49 by 50", requestOf(50, 49), 1);
        checks.same("26 50 by 50", requestOf(50, 50), 1);
        checks.same("26 51 by 50", requestOf(50, 51), 2);
    }

    private static void shares(String what, Replen x, int... due) {
        for (int shop = 0; shop < due.length; shop++) {
            checks.same("27 " + what + ", shop " + shop, x.share(shop, 0), due[shop]);
            checks.same("28 " + what + ", shop " + shop, x.shareByPacks(shop, 0), due[shop]);
        }
    }

    private static void packsThatAreWhole() {
        shares("no units", Planners.needing(50, 0, 60), 0);
        shares("49 of 50", Planners.needing(50, 49, 60), 0);
        shares("50 of 50", Planners.needing(50, 50, 60), 1);
        shares("99 of 50", Planners.needing(50, 99, 60), 1);
        shares("100 of 50", Planners.needing(50, 100, 60), 2);
        shares("1 of 1", Planners.needing(1, 1, 60), 1);
        Replen x = Planners.needing(50, 49, 60);
        x.mark(0, 0);
        checks.same("12 49 of 50", x.night(), 0);
        checks.same("29 49 stay", x.centre(0), 49);
        x.supply(0, 1);
        x.mark(0, 1);
        checks.same("12 50 of 50", x.night(), 1);
        checks.same("29 none stay", x.centre(0), 0);
        checks.same("23 a pack", x.onWay(0, 0), 50);
    }

    /** All quotients are 0 at first, and the lowest shop comes first, whatever its request is. */
    private static void firstPacks() {
        shares("1 pack for 1 and 5", Planners.needing(1, 1, 1, 5), 1, 0);
        shares("1 pack for 5 and 1", Planners.needing(1, 1, 5, 1), 1, 0);
        shares("2 packs for 1 and 5", Planners.needing(1, 2, 1, 5), 1, 1);
        shares("2 packs for 5 and 1", Planners.needing(1, 2, 5, 1), 1, 1);
        shares("3 packs for 1 and 5", Planners.needing(1, 3, 1, 5), 1, 2);
        shares("3 packs for 5 and 1", Planners.needing(1, 3, 5, 1), 2, 1);
        shares("3 packs of four shops", Planners.needing(1, 3, 2, 9, 1, 5), 1, 1, 1, 0);
        shares("4 packs of four shops", Planners.needing(1, 4, 2, 9, 1, 5), 1, 1, 1, 1);
        shares("5 packs of four shops", Planners.needing(1, 5, 2, 9, 1, 5), 1, 2, 1, 1);
        shares("6 packs of four shops", Planners.needing(1, 6, 2, 9, 1, 5), 1, 2, 1, 2);
    }

    private static void shortCentre() {
        shares("7 packs for 9 and 6", Planners.needing(1, 7, 9, 6), 4, 3);
        shares("14 packs for 9 and 6", Planners.needing(1, 14, 9, 6), 8, 6);
        shares("15 packs for 9 and 6", Planners.needing(1, 15, 9, 6), 9, 6);
        shares("14 packs for 6 and 9", Planners.needing(1, 14, 6, 9), 6, 8);
        shares("packs of 4 for 7 and 6", Planners.needing(4, 31, 26, 24), 4, 3);
        checks.same("27 by itself", Planners.needing(1, 7, 9, 6).share(1, 0), 3);
        checks.same("28 by itself", Planners.needing(1, 7, 9, 6).shareByPacks(1, 0), 3);
        shares("199 packs for 100 and 100", Planners.needing(1, 199, 100, 100), 100, 99);
    }

    private static void equalQuotients() {
        int[][] due = {{0, 0}, {1, 0}, {1, 1}, {2, 1}, {3, 1}, {3, 2}, {4, 2}, {4, 2}};
        int[][] turned = {{0, 0}, {1, 0}, {1, 1}, {1, 2}, {2, 2}, {2, 3}, {2, 4}, {2, 4}};
        for (int packs = 0; packs < due.length; packs++) {
            shares(packs + " packs for 4 and 2", Planners.needing(1, packs, 4, 2), due[packs]);
            shares(packs + " packs for 2 and 4", Planners.needing(1, packs, 2, 4), turned[packs]);
        }
    }

    private static void equalQuotientsByNumber() {
        for (int packs = 0; packs <= 13; packs++) {
            Replen x = Planners.needing(1, packs, 3, 3, 3, 3);
            shares(packs + " packs for 3 each", x, third(packs + 3), third(packs + 2), third(packs + 1), third(packs));
        }
        Replen x = new Replen();
        x.addItem(1, 1);
        x.addShop(1);
        x.addShop(1);
        x.carry(1, 0, 0, 1500);
        x.carry(0, 0, 0, 1500);
        shares("lowest shop, not first line", x, 1, 0);
    }

    private static int third(int packs) {
        return Math.min(3, packs / 4);
    }

    private static void shareOfNoRequest() {
        shares("no request of the lowest shop", Planners.needing(1, 2, 0, 3), 0, 2);
        shares("no request of the highest shop", Planners.needing(1, 2, 3, 0), 2, 0);
        shares("no request between", Planners.needing(1, 3, 3, 0, 3), 2, 0, 1);
        shares("no request at all", Planners.needing(1, 3, 0, 0), 0, 0);
    }

    private static void shopThatDoesNotCarry() {
        Replen x = new Replen();
        x.addItem(1, 3);
        x.addItem(1, 3);
        for (int shop = 0; shop < 3; shop++) {
            x.addShop(1);
            x.carry(shop, shop == 1 ? 1 : 0, 0, 1500);
        }
        checks.same("5 not carried", x.carries(1, 0), false);
        checks.same("27 first shop", x.share(0, 0), 2);
        checks.same("28 first shop", x.shareByPacks(0, 0), 2);
        checks.same("27 last shop", x.share(2, 0), 1);
        checks.same("28 last shop", x.shareByPacks(2, 0), 1);
        checks.fails("27 not carried", NoSuchElementException.class, () -> x.share(1, 0));
        checks.fails("28 not carried", NoSuchElementException.class, () -> x.shareByPacks(1, 0));
        x.mark(0, 0);
        x.mark(1, 0);
        checks.same("12 of both items", x.night(), 6);
        checks.same("29 first item", x.centre(0), 0);
        checks.same("23 second item", x.onWay(1, 1), 3);
        checks.same("5 a night carries nothing", x.carries(1, 0), false);
    }

    private static void enoughForAll() {
        shares("just enough", Planners.needing(2, 12, 5, 6), 3, 3);
        shares("a unit short", Planners.needing(2, 11, 5, 6), 3, 2);
        shares("much more", Planners.needing(2, 9999, 5, 6), 3, 3);
        Replen x = Planners.needing(2, 13, 5, 6);
        x.mark(0, 0);
        checks.same("12 all requests", x.night(), 6);
        checks.same("29 the rest stays", x.centre(0), 1);
    }

    private static void sharesBeforePacksLeave() {
        Replen x = Planners.needing(1, 7, 9, 6, 9);
        shares("7 packs for 9, 6 and 9", x, 3, 2, 2);
        x.mark(0, 0);
        checks.same("12 all packs", x.night(), 7);
        checks.same("23 first shop", x.onWay(0, 0), 3);
        checks.same("23 second shop", x.onWay(1, 0), 2);
        checks.same("23 third shop", x.onWay(2, 0), 2);
        checks.same("29 none left", x.centre(0), 0);
        shares("no packs left", x, 0, 0, 0);
    }

    private static void nightOfNothing() {
        Replen x = new Replen();
        checks.same("12 no shops, no items", x.night(), 0);
        x.addShop(1);
        checks.same("12 no items", x.night(), 0);
        x.addItem(1, 9);
        checks.same("12 no lines", x.night(), 0);
        checks.same("13 three days", x.today(), 3);
        checks.same("29 all stay", x.centre(0), 9);
        x.carry(0, 0, 0, 0);
        checks.same("12 no requests", x.night(), 0);
        checks.same("29 all stay still", x.centre(0), 9);
    }

    /** Learning counts the demand of the day that ends; arrivals and the new forecasts count for the packs. */
    private static void orderOfTheNight() {
        Replen x = Planners.oneLine(1, 1, 500, 0, 1000);
        x.setRates(100, 0);
        x.demand(0, 0, 9);
        checks.same("12 18 and error 8", x.night(), 26);
        checks.same("23 due tomorrow", x.onWay(0, 0), 26);
        checks.same("24 due tomorrow", x.nextArrival(0, 0), 2);
        x.demand(0, 0, 9);
        checks.same("11 not sold on the way", x.stock(0, 0), 0);
        checks.same("12 18 and error 8 less 26", x.night(), 0);
        checks.same("21 arrived", x.stock(0, 0), 26);
        checks.same("23 arrived", x.onWay(0, 0), 0);
        checks.same("25 as at night", x.need(0, 0), 0);
    }

    private static void leadTimes() {
        for (int lead = 1; lead <= 5; lead++) {
            Replen x = Planners.oneLine(lead, 1, 100, 0, 1000);
            Planners.dayOfPromotion(x);
            while (x.today() < 1 + lead) {
                checks.same("21 nothing before it is due", x.stock(0, 0), 0);
                checks.same("23 on its way", x.onWay(0, 0), lead + 1);
                checks.same("24 lead time " + lead, x.nextArrival(0, 0), 1 + lead);
                Planners.dayOfPromotion(x);
            }
            checks.same("21 arrived", x.stock(0, 0), lead + 1);
            checks.same("22 arrived", x.stockByJournal(0, 0), lead + 1);
            checks.same("23 nothing then", x.onWay(0, 0), 0);
            checks.fails("24 nothing then", NoSuchElementException.class, () -> x.nextArrival(0, 0));
        }
    }

    private static void nothingOnItsWay() {
        Replen x = Planners.oneLine(1, 1, 1, 0, 5000);
        checks.same("23 at first", x.onWay(0, 0), 0);
        checks.fails("24 at first", NoSuchElementException.class, () -> x.nextArrival(0, 0));
        checks.fails("24 no shop", IndexOutOfBoundsException.class, () -> x.nextArrival(1, 0));
        x.carry(x.addShop(1), 0, 99, 0);
        Planners.dayOfPromotion(x);
        checks.same("23 one unit", x.onWay(0, 0), 1);
        checks.same("24 one unit", x.nextArrival(0, 0), 2);
        checks.same("23 none to the other shop", x.onWay(1, 0), 0);
        checks.fails("24 none to the other shop", NoSuchElementException.class, () -> x.nextArrival(1, 0));
        Planners.dayOfPromotion(x);
        checks.same("21 one unit", x.stock(0, 0), 1);
        checks.fails("24 arrived", NoSuchElementException.class, () -> x.nextArrival(0, 0));
    }

    private static void nextOfSeveral() {
        Replen x = Planners.oneLine(5, 1, 1, 0, 5000);
        for (int day = 0; day < 5; day++) {
            Planners.dayOfPromotion(x);
            x.supply(0, 1);
        }
        checks.same("23 one a night", x.onWay(0, 0), 5);
        for (int day = 6; day <= 10; day++) {
            checks.same("24 the next of them", x.nextArrival(0, 0), day);
            x.setService(1);
            x.mark(0, x.today());
            x.night();
            checks.same("21 one a night", x.stock(0, 0), day - 5);
        }
        checks.same("24 of the last supply", x.nextArrival(0, 0), 11);
    }

    private static void journals() {
        Replen x = Planners.oneLine(1, 3, 10, 5, 4000);
        checks.same("22 as it was carried", x.stockByJournal(0, 0), 5);
        checks.same("30 as it was added", x.centreByJournal(0), 10);
        x.demand(0, 0, 9);
        checks.same("22 what was lost doesn't count", x.stockByJournal(0, 0), 0);
        x.supply(0, 1);
        x.supply(0, 1);
        checks.same("30 supplied twice a day", x.centreByJournal(0), 12);
        Planners.dayOfPromotion(x);
        checks.same("30 three packs left", x.centreByJournal(0), 3);
        checks.same("22 not what is on its way", x.stockByJournal(0, 0), 0);
        x.supply(0, 1);
        checks.same("30 supplied behind", x.centreByJournal(0), 4);
        Planners.dayOfPromotion(x);
        checks.same("22 arrived", x.stockByJournal(0, 0), 9);
        x.demand(0, 0, 2);
        checks.same("22 sold behind", x.stockByJournal(0, 0), 7);
        checks.same("21 the same", x.stock(0, 0), 7);
        checks.same("29 the same", x.centre(0), 4);
        checks.same("30 the same", x.centreByJournal(0), 4);
    }

    private static void sums() {
        Replen x = Planners.oneLine(2, 1, 9999, 999, 99999);
        x.addItem(50, 9999);
        x.carry(x.addShop(5), 1, 999, 99999);
        checks.same("33 central stocks and shops", x.units(), 2L * 9999 + 2 * 999);
        Planners.bring(x, 0, 0, 999);
        checks.same("33 less what is sold", x.units(), 2L * 9999 + 999);
        x.night();
        checks.same("33 some are on their way", x.onWay(0, 0) > 0, true);
        checks.same("33 with those on their way", x.units(), 2L * 9999 + 999);
        checks.same("11 all lost", x.demand(0, 0, 99), 0);
        checks.same("33 not less what is lost", x.units(), 2L * 9999 + 999);
    }

    private static void serviceOfDemand() {
        Replen x = Planners.oneLine(1, 1, 0, 10, 0);
        x.addShop(1);
        x.addShop(1);
        x.carry(2, 0, 10, 0);
        checks.fails("34 no demand ever", NoSuchElementException.class, () -> x.service(0));
        checks.fails("34 no line", NoSuchElementException.class, () -> x.service(1));
        checks.fails("34 no shop", IndexOutOfBoundsException.class, () -> x.service(3));
        x.demand(2, 0, 1);
        checks.fails("34 demand of another shop", NoSuchElementException.class, () -> x.service(0));
        checks.same("34 all sold", x.service(2), 1.0f);
        x.demand(0, 0, 30);
        checks.same("34 a third sold", x.service(0), 10f / 30f);
        Replen y = Planners.oneLine(1, 1, 0, 0, 0);
        y.demand(0, 0, 1);
        checks.same("34 none sold", y.service(0), 0.0f);
        y.night();
        y.night();
        checks.same("34 ever, not today", y.service(0), 0.0f);
    }

    /** The last of the 512 calls answers as the others do. */
    private static void allCalls() {
        Replen x = Planners.oneLine(5, 1, 9999, 0, 3000);
        for (int call = 4; call < 512; call++) {
            x.night();
        }
        checks.same("13 the call 512", x.today(), 508);
        Replen y = Planners.oneLine(1, 1, 0, 0, 9999);
        for (int call = 4; call < 510; call += 2) {
            y.demand(0, 0, 1 + call % 13);
            y.night();
        }
        int level = y.level(0, 0);
        checks.same("16 the call 511", y.levelByDays(0, 0), level);
    }
}
