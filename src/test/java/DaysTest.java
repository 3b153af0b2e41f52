import java.util.NoSuchElementException;

/** Promises 11 to 14: days. */
public final class DaysTest {
    private static final Checks checks = new Checks();

    public static void main(String[] args) {
        demand();
        demandOfOneDay();
        night();
        orderOfNight();
        lastDay();
        checks.end();
    }

    private static Replen oneLine(int lead, int pack, int centre, int stock, int level) {
        Replen x = new Replen();
        x.addShop(lead);
        x.addItem(pack, centre);
        x.carry(0, 0, stock, level);
        return x;
    }

    private static void demand() {
        Replen x = oneLine(1, 1, 0, 100, 0);
        x.addItem(1, 0);
        checks.fails("11 no shop", IndexOutOfBoundsException.class, () -> x.demand(1, 0, 0));
        checks.fails("11 no item", IndexOutOfBoundsException.class, () -> x.demand(0, 2, 0));
        checks.fails("11 not carried", NoSuchElementException.class, () -> x.demand(0, 1, 0));
        checks.fails("11 units 0", IllegalArgumentException.class, () -> x.demand(0, 0, 0));
        checks.fails("11 units 100", IllegalArgumentException.class, () -> x.demand(0, 0, 100));
        checks.same("11 nothing came", x.demandToday(0, 0), 0);
        checks.same("11 all sold", x.demand(0, 0, 99), 99);
        checks.same("11 the last one", x.demand(0, 0, 2), 1);
        checks.same("11 none left", x.demand(0, 0, 1), 0);
        checks.same("14 sum", x.demandToday(0, 0), 102);
        checks.same("11 stock", x.stock(0, 0), 0);
        checks.same("11 sold", x.sold(0, 0), 100);
        checks.same("11 lost", x.lost(0, 0), 2);
        checks.fails("14 no shop", IndexOutOfBoundsException.class, () -> x.demandToday(-1, 0));
        checks.fails("14 no item", IndexOutOfBoundsException.class, () -> x.demandToday(0, -1));
        checks.fails("14 not carried", NoSuchElementException.class, () -> x.demandToday(0, 1));
    }

    private static void demandOfOneDay() {
        Replen x = oneLine(1, 1, 0, 0, 0);
        for (int times = 0; times < 10; times++) {
            x.demand(0, 0, 99);
        }
        checks.fails("11 1000", UnsupportedOperationException.class, () -> x.demand(0, 0, 10));
        checks.fails("11 number goes first", IllegalArgumentException.class, () -> x.demand(0, 0, 100));
        checks.same("14 stays", x.demandToday(0, 0), 990);
        checks.same("11 lost stays", x.lost(0, 0), 990);
        checks.same("11 up to 999", x.demand(0, 0, 9), 0);
        checks.fails("11 one over", UnsupportedOperationException.class, () -> x.demand(0, 0, 1));
        checks.same("14 most", x.demandToday(0, 0), 999);
        x.night();
        checks.same("14 next day", x.demandToday(0, 0), 0);
        checks.same("11 next day", x.demand(0, 0, 99), 0);
        checks.same("14 next day's demand", x.demandToday(0, 0), 99);
    }

    private static void night() {
        Replen x = oneLine(2, 10, 35, 0, 10000);
        x.setRates(0, 0);
        x.setService(1);
        x.demand(0, 0, 10);
        checks.same("12 packs", x.night(), 3);
        checks.same("13 next day", x.today(), 1);
        checks.same("12 centre", x.centre(0), 5);
        checks.same("12 due", x.nextArrival(0, 0), 3);
        x.demand(0, 0, 10);
        checks.same("12 none whole", x.night(), 0);
        checks.same("12 not yet", x.stock(0, 0), 0);
        x.demand(0, 0, 10);
        checks.same("12 none whole again", x.night(), 0);
        checks.same("12 arrived", x.stock(0, 0), 30);
        checks.same("12 nothing on its way", x.onWay(0, 0), 0);
        checks.same("13 third day", x.today(), 3);
        x.addItem(1, 4);
        x.carry(0, 1, 0, 9000);
        x.supply(0, 5);
        x.demand(0, 0, 10);
        checks.same("12 sum of items", x.night(), 5);
    }

    /** What is learned and what arrives at night counts already for the packs that leave that night. */
    private static void orderOfNight() {
        Replen x = oneLine(1, 1, 12, 0, 6000);
        x.setRates(0, 0);
        x.setService(1);
        x.demand(0, 0, 6);
        checks.same("12 first night", x.night(), 12);
        x.supply(0, 100);
        x.demand(0, 0, 6);
        checks.same("12 arrivals count", x.night(), 0);
        checks.same("12 arrived first", x.stock(0, 0), 12);
        x.setRates(100, 0);
        x.demand(0, 0, 10);
        checks.same("12 learned first: need is 20 + error 4 - 2", x.setService(100), 1);
        checks.same("12 learned first", x.night(), 22);
    }

    /** Beyond the 512 calls of the document, where the class keeps its promises all the same. */
    private static void lastDay() {
        Replen x = oneLine(5, 1, 9999, 0, 1000);
        x.mark(0, 999);
        for (int nights = 0; nights < 998; nights++) {
            x.night();
        }
        x.demand(0, 0, 99);
        long units = x.units();
        checks.same("12 packs of the last night", x.night() > 0, true);
        checks.same("24 behind the last day", x.nextArrival(0, 0), 1004);
        checks.same("33 behind the last day", x.units(), units);
        checks.same("13 last day", x.today(), 999);
        checks.fails("12 last day", IllegalStateException.class, () -> x.night());
        checks.same("13 stays", x.today(), 999);
        checks.same("9 last day", x.mark(0, 999), true);
        checks.fails("9 before last day", IllegalArgumentException.class, () -> x.mark(0, 998));
        checks.same("18 last day", x.forecast(0, 0, 1099), x.level(0, 0) * x.season(0, 0, 0) / 1000);
        checks.same("16 last day", x.levelByDays(0, 0), x.level(0, 0));
        checks.same("22 last day", x.stockByJournal(0, 0), x.stock(0, 0));
        checks.same("30 last day", x.centreByJournal(0), x.centre(0));
    }
}
