/** All that can be read from a planner, as a text, to tell whether a call changed something. */
final class Snapshot {
    private Snapshot() {
    }

    static String of(Replen x, int shops, int items) {
        StringBuilder text = new StringBuilder();
        int today = x.today();
        text.append("day ").append(today).append(" units ").append(x.units());
        for (int item = 0; item < items; item++) {
            text.append("\nitem ").append(x.centre(item)).append(' ').append(x.centreByJournal(item)).append(' ');
            for (int day = Math.max(0, today - 3); day < today + 3; day++) {
                text.append(x.isMarked(item, day) ? '!' : '.');
            }
            for (int shop = 0; shop < shops; shop++) {
                if (x.carries(shop, item)) {
                    text.append("\nline ").append(shop).append(' ').append(item).append(':');
                    addLine(text, x, shop, item);
                }
            }
        }
        addSettings(text, x);
        return text.toString();
    }

    private static void addLine(StringBuilder text, Replen x, int shop, int item) {
        int[] numbers = {x.demandToday(shop, item), x.level(shop, item), x.levelByDays(shop, item),
            x.safety(shop, item), x.stock(shop, item), x.stockByJournal(shop, item), x.onWay(shop, item),
            x.need(shop, item), x.request(shop, item), x.share(shop, item), x.shareByPacks(shop, item),
            x.sold(shop, item), x.lost(shop, item)};
        for (int number : numbers) {
            text.append(' ').append(number);
        }
        text.append(" next ").append(x.onWay(shop, item) > 0 ? x.nextArrival(shop, item) : -1).append(" seasons");
        for (int weekday = 0; weekday < 7; weekday++) {
            text.append(' ').append(x.season(shop, item, weekday));
        }
        text.append(" forecasts");
        int today = x.today();
        for (int day = today; day < today + 7; day++) {
            text.append(' ').append(x.forecast(shop, item, day));
        }
        text.append(" errors");
        for (int size = 0; size <= 20; size++) {
            text.append(' ').append(x.errors(shop, item, size));
        }
    }

    /** They are told only when they are set, so the planner is of no more use behind its snapshot. */
    private static void addSettings(StringBuilder text, Replen x) {
        text.append("\nservice ").append(x.setService(1)).append(" level rate ").append(x.setRates(1, 1));
    }
}
