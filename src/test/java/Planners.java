/** Planners that several tests begin with, and days of demand. */
final class Planners {
    private Planners() {
    }

    /** One shop that carries one item. */
    static Replen oneLine(int lead, int pack, int centre, int stock, int level) {
        Replen x = new Replen();
        x.addShop(lead);
        x.addItem(pack, centre);
        x.carry(0, 0, stock, level);
        return x;
    }

    /** One line without stock, a central stock of 0, and these rates. */
    static Replen learner(int level, int levelRate, int seasonRate) {
        Replen x = oneLine(1, 1, 0, 0, level);
        x.setRates(levelRate, seasonRate);
        return x;
    }

    /** Shops with a lead time of 1 day and no stock, whose needs of one item are these until a night comes. */
    static Replen needing(int pack, int centre, int... needs) {
        Replen x = new Replen();
        x.addItem(pack, centre);
        for (int shop = 0; shop < needs.length; shop++) {
            x.addShop(1);
            x.carry(shop, 0, 0, 500 * needs[shop]);
        }
        return x;
    }

    /** Lets any demand come, as one call takes at most 99 units. */
    static void bring(Replen x, int shop, int item, int units) {
        for (int left = units; left > 0; left -= 99) {
            x.demand(shop, item, Math.min(left, 99));
        }
    }

    /** A day with this demand of the first line, and the night behind it. */
    static int day(Replen x, int units) {
        bring(x, 0, 0, units);
        return x.night();
    }

    /** A day that teaches the first item's lines nothing, and the night behind it. */
    static int dayOfPromotion(Replen x) {
        x.mark(0, x.today());
        return x.night();
    }
}
