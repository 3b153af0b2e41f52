import java.util.NoSuchElementException;

/** Promises 31 to 34: sums. */
public final class SumsTest {
    private static final Checks checks = new Checks();

    public static void main(String[] args) {
        soldAndLost();
        units();
        service();
        checks.end();
    }

    private static void soldAndLost() {
        Replen x = new Replen();
        x.addShop(1);
        x.addShop(1);
        x.addItem(1, 50);
        x.carry(0, 0, 5, 0);
        checks.same("31 at first", x.sold(0, 0), 0);
        checks.same("32 at first", x.lost(0, 0), 0);
        x.demand(0, 0, 4);
        checks.same("31 4", x.sold(0, 0), 4);
        checks.same("32 none", x.lost(0, 0), 0);
        x.demand(0, 0, 4);
        checks.same("31 5", x.sold(0, 0), 5);
        checks.same("32 3", x.lost(0, 0), 3);
        x.night();
        x.night();
        x.demand(0, 0, 2);
        checks.same("31 of all days", x.sold(0, 0), 7);
        checks.same("32 of all days", x.lost(0, 0), 3);
        checks.fails("31 shop", IndexOutOfBoundsException.class, () -> x.sold(2, 0));
        checks.fails("31 item", IndexOutOfBoundsException.class, () -> x.sold(0, 1));
        checks.fails("31 line", NoSuchElementException.class, () -> x.sold(1, 0));
        checks.fails("32 shop", IndexOutOfBoundsException.class, () -> x.lost(-1, 0));
        checks.fails("32 item", IndexOutOfBoundsException.class, () -> x.lost(0, -1));
        checks.fails("32 line", NoSuchElementException.class, () -> x.lost(1, 0));
    }

    private static void units() {
        Replen x = new Replen();
        x.addShop(2);
        x.addShop(1);
        x.addItem(3, 100);
        x.addItem(1, 20);
        checks.same("33 central stocks", x.units(), 120L);
        x.carry(0, 0, 7, 5000);
        x.carry(1, 0, 2, 1000);
        x.carry(1, 1, 1, 1000);
        checks.same("33 with shops", x.units(), 130L);
        x.demand(0, 0, 9);
        checks.same("33 less what was sold", x.units(), 123L);
        for (int nights = 0; nights < 4; nights++) {
            x.night();
            checks.same("33 on their way", x.units(), 123L);
        }
        x.supply(1, 9999);
        checks.same("33 supplied", x.units(), 10122L);
    }

    private static void service() {
        Replen x = new Replen();
        x.addShop(1);
        x.addShop(1);
        x.addItem(1, 0);
        x.addItem(1, 0);
        checks.fails("34 no line", NoSuchElementException.class, () -> x.service(0));
        x.carry(0, 0, 10, 0);
        x.carry(0, 1, 50, 0);
        x.carry(1, 1, 50, 0);
        checks.fails("34 no demand", NoSuchElementException.class, () -> x.service(0));
        checks.fails("34 shop -1", IndexOutOfBoundsException.class, () -> x.service(-1));
        checks.fails("34 shop 2", IndexOutOfBoundsException.class, () -> x.service(2));
        x.demand(0, 0, 10);
        checks.same("34 all", x.service(0), 1.0f);
        checks.fails("34 no demand there", NoSuchElementException.class, () -> x.service(1));
        x.demand(0, 0, 6);
        checks.same("34 10 of 16", x.service(0), 0.625f);
        x.night();
        x.demand(0, 1, 8);
        checks.same("34 18 of 24, of all lines and days", x.service(0), 0.75f);
        x.demand(0, 1, 9);
        checks.same("34 in float", x.service(0), 27f / 33f);
        x.addShop(1);
        x.carry(2, 0, 0, 0);
        x.demand(2, 0, 1);
        checks.same("34 none", x.service(2), 0.0f);
    }
}
