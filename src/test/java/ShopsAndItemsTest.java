/** Promises 1 to 10: a new object, shops and items. */
public final class ShopsAndItemsTest {
    private static final Checks checks = new Checks();

    public static void main(String[] args) {
        newObject();
        addShop();
        addItem();
        carry();
        carryEdges();
        carries();
        supply();
        setService();
        setRates();
        mark();
        checks.end();
    }

    private static void newObject() {
        Replen x = new Replen();
        checks.same("1 today", x.today(), 0);
        checks.same("1 units", x.units(), 0L);
        checks.fails("1 no shop", IndexOutOfBoundsException.class, () -> x.service(0));
        checks.fails("1 no item", IndexOutOfBoundsException.class, () -> x.centre(0));
        checks.fails("1 no line", IndexOutOfBoundsException.class, () -> x.stock(0, 0));
        checks.same("1 night without shops", x.night(), 0);
        checks.same("1 service at first", x.setService(1), 90);
        checks.same("1 level rate at first", x.setRates(0, 0), 20);
    }

    private static void addShop() {
        Replen x = new Replen();
        checks.fails("2 lead 0", IllegalArgumentException.class, () -> x.addShop(0));
        checks.fails("2 lead 6", IllegalArgumentException.class, () -> x.addShop(6));
        checks.fails("2 least lead", IllegalArgumentException.class, () -> x.addShop(Integer.MIN_VALUE));
        checks.same("2 first", x.addShop(1), 0);
        checks.same("2 second", x.addShop(5), 1);
        checks.same("2 third", x.addShop(3), 2);
        checks.fails("2 lead between", IllegalArgumentException.class, () -> x.addShop(Integer.MAX_VALUE));
        checks.same("2 fourth", x.addShop(2), 3);
        checks.fails("2 fifth", IllegalStateException.class, () -> x.addShop(2));
        checks.fails("2 lead goes first", IllegalArgumentException.class, () -> x.addShop(6));
    }

    private static void addItem() {
        Replen x = new Replen();
        checks.fails("3 pack 0", IllegalArgumentException.class, () -> x.addItem(0, 5));
        checks.fails("3 pack 51", IllegalArgumentException.class, () -> x.addItem(51, 5));
        checks.fails("3 stock -1", IllegalArgumentException.class, () -> x.addItem(1, -1));
        checks.fails("3 stock 10000", IllegalArgumentException.class, () -> x.addItem(1, 10000));
        checks.same("3 first", x.addItem(1, 0), 0);
        checks.same("3 second", x.addItem(50, 9999), 1);
        checks.same("3 centre of first", x.centre(0), 0);
        checks.same("3 centre of second", x.centre(1), 9999);
        checks.same("3 third", x.addItem(2, 7), 2);
        checks.same("3 fourth", x.addItem(3, 7), 3);
        checks.same("3 fifth", x.addItem(4, 7), 4);
        checks.fails("3 sixth", IllegalStateException.class, () -> x.addItem(4, 7));
        checks.fails("3 pack goes first", IllegalArgumentException.class, () -> x.addItem(51, 7));
        checks.fails("3 stock goes first", IllegalArgumentException.class, () -> x.addItem(4, -7));
        checks.same("3 units", x.units(), 10020L);
    }

    private static void carry() {
        Replen x = new Replen();
        checks.fails("4 no shop", IndexOutOfBoundsException.class, () -> x.carry(0, 0, 5, 5));
        x.addShop(1);
        checks.fails("4 no item", IndexOutOfBoundsException.class, () -> x.carry(0, 0, 5, 5));
        x.addItem(1, 0);
        checks.fails("4 shop -1", IndexOutOfBoundsException.class, () -> x.carry(-1, 0, 5, 5));
        checks.fails("4 shop 1", IndexOutOfBoundsException.class, () -> x.carry(1, 0, 5, 5));
        checks.fails("4 item -1", IndexOutOfBoundsException.class, () -> x.carry(0, -1, 5, 5));
        checks.fails("4 item 1", IndexOutOfBoundsException.class, () -> x.carry(0, 1, 5, 5));
        checks.fails("4 item goes first", IndexOutOfBoundsException.class, () -> x.carry(0, 1, -5, 5));
        checks.fails("4 stock -1", IllegalArgumentException.class, () -> x.carry(0, 0, -1, 5));
        checks.fails("4 stock 1000", IllegalArgumentException.class, () -> x.carry(0, 0, 1000, 5));
        checks.fails("4 level -1", IllegalArgumentException.class, () -> x.carry(0, 0, 5, -1));
        checks.fails("4 level 100000", IllegalArgumentException.class, () -> x.carry(0, 0, 5, 100000));
        checks.same("4 nothing changed", x.carries(0, 0), false);
        checks.same("4 first", x.carry(0, 0, 999, 99999), 1);
        checks.same("4 stock", x.stock(0, 0), 999);
        checks.same("4 level", x.level(0, 0), 99999);
        checks.fails("4 again", IllegalStateException.class, () -> x.carry(0, 0, 1, 2));
        checks.fails("4 stock before again", IllegalArgumentException.class, () -> x.carry(0, 0, 1000, 2));
        checks.fails("4 level before again", IllegalArgumentException.class, () -> x.carry(0, 0, 1, -2));
        checks.same("4 stock stays", x.stock(0, 0), 999);
        checks.same("4 level stays", x.level(0, 0), 99999);
    }

    private static void carryEdges() {
        Replen x = new Replen();
        for (int shop = 0; shop < 4; shop++) {
            x.addShop(shop + 1);
        }
        for (int item = 0; item < 5; item++) {
            x.addItem(item + 1, 0);
        }
        int lines = 0;
        for (int item = 4; item >= 0; item--) {
            for (int shop = 3; shop >= 0; shop--) {
                lines++;
                checks.same("4 lines", x.carry(shop, item, 10 * shop + item, 0), lines);
            }
        }
        for (int item = 0; item < 5; item++) {
            for (int shop = 0; shop < 4; shop++) {
                checks.same("4 stock of each", x.stock(shop, item), 10 * shop + item);
                checks.same("4 level 0", x.level(shop, item), 0);
            }
        }
    }

    private static void carries() {
        Replen x = new Replen();
        x.addShop(1);
        x.addShop(1);
        x.addItem(1, 0);
        x.addItem(1, 0);
        x.carry(0, 1, 0, 0);
        checks.same("5 carried", x.carries(0, 1), true);
        checks.same("5 other item", x.carries(0, 0), false);
        checks.same("5 other shop", x.carries(1, 1), false);
        checks.same("5 both other", x.carries(1, 0), false);
        checks.fails("5 shop -1", IndexOutOfBoundsException.class, () -> x.carries(-1, 0));
        checks.fails("5 shop 2", IndexOutOfBoundsException.class, () -> x.carries(2, 0));
        checks.fails("5 item -1", IndexOutOfBoundsException.class, () -> x.carries(0, -1));
        checks.fails("5 item 2", IndexOutOfBoundsException.class, () -> x.carries(0, 2));
    }

    private static void supply() {
        Replen x = new Replen();
        checks.fails("6 no item", IndexOutOfBoundsException.class, () -> x.supply(0, 5));
        x.addItem(7, 9);
        x.addItem(7, 4);
        checks.fails("6 item goes first", IndexOutOfBoundsException.class, () -> x.supply(2, 0));
        checks.fails("6 item -1", IndexOutOfBoundsException.class, () -> x.supply(-1, 1));
        checks.fails("6 units 0", IllegalArgumentException.class, () -> x.supply(0, 0));
        checks.fails("6 units 10000", IllegalArgumentException.class, () -> x.supply(0, 10000));
        checks.same("6 one", x.supply(0, 1), 10);
        for (int times = 1; times <= 9; times++) {
            checks.same("6 most", x.supply(0, 9999), 10 + times * 9999);
        }
        checks.fails("6 100000", IllegalStateException.class, () -> x.supply(0, 9999));
        checks.fails("6 number goes first", IllegalArgumentException.class, () -> x.supply(0, 10000));
        checks.same("6 stays", x.centre(0), 90001);
        checks.same("6 up to 99999", x.supply(0, 9998), 99999);
        checks.fails("6 one over", IllegalStateException.class, () -> x.supply(0, 1));
        checks.same("6 other item", x.centre(1), 4);
        checks.same("6 journal", x.centreByJournal(0), 99999);
    }

    private static void setService() {
        Replen x = new Replen();
        checks.same("7 at first", x.setService(1), 90);
        checks.fails("7 0", IllegalArgumentException.class, () -> x.setService(0));
        checks.fails("7 101", IllegalArgumentException.class, () -> x.setService(101));
        checks.fails("7 -1", IllegalArgumentException.class, () -> x.setService(-1));
        checks.same("7 before", x.setService(100), 1);
        checks.same("7 before again", x.setService(100), 100);
    }

    private static void setRates() {
        Replen x = new Replen();
        checks.same("8 at first", x.setRates(0, 100), 20);
        checks.fails("8 level -1", IllegalArgumentException.class, () -> x.setRates(-1, 0));
        checks.fails("8 level 101", IllegalArgumentException.class, () -> x.setRates(101, 0));
        checks.fails("8 season -1", IllegalArgumentException.class, () -> x.setRates(7, -1));
        checks.fails("8 season 101", IllegalArgumentException.class, () -> x.setRates(7, 101));
        checks.same("8 before", x.setRates(100, 0), 0);
        x.addShop(1);
        x.addItem(1, 0);
        x.carry(0, 0, 0, 4000);
        x.demand(0, 0, 8);
        checks.fails("8 season wrong", IllegalArgumentException.class, () -> x.setRates(50, 101));
        x.night();
        checks.same("8 level rate used", x.level(0, 0), 8000);
        checks.same("8 season rate used", x.season(0, 0, 0), 1000);
        checks.same("8 level rate before", x.setRates(0, 50), 100);
        x.demand(0, 0, 16);
        x.night();
        checks.same("8 level stays", x.level(0, 0), 8000);
        checks.same("8 season rate 50", x.season(0, 0, 1), 1500);
    }

    private static void mark() {
        Replen x = new Replen();
        checks.fails("9 no item", IndexOutOfBoundsException.class, () -> x.mark(0, 0));
        checks.fails("10 no item", IndexOutOfBoundsException.class, () -> x.isMarked(0, 0));
        x.addItem(1, 0);
        x.addItem(1, 0);
        checks.fails("9 item goes first", IndexOutOfBoundsException.class, () -> x.mark(2, -1));
        checks.fails("10 item goes first", IndexOutOfBoundsException.class, () -> x.isMarked(-1, -1));
        checks.same("9 today", x.mark(0, 0), false);
        checks.same("9 last day", x.mark(0, 999), false);
        checks.same("9 last day again", x.mark(0, 999), true);
        checks.fails("9 day 1000", IllegalArgumentException.class, () -> x.mark(0, 1000));
        checks.fails("9 day -1", IllegalArgumentException.class, () -> x.mark(0, -1));
        checks.same("10 today", x.isMarked(0, 0), true);
        checks.same("10 last day", x.isMarked(0, 999), true);
        checks.same("10 other day", x.isMarked(0, 1), false);
        checks.same("10 other item", x.isMarked(1, 999), false);
        checks.fails("10 day -1", IllegalArgumentException.class, () -> x.isMarked(0, -1));
        checks.fails("10 day 1000", IllegalArgumentException.class, () -> x.isMarked(0, 1000));
        x.night();
        checks.fails("9 before today", IllegalArgumentException.class, () -> x.mark(0, 0));
        checks.same("10 before today", x.isMarked(0, 0), true);
        checks.same("9 today again", x.mark(0, 1), false);
        checks.same("9 other item", x.mark(1, 999), false);
    }
}
