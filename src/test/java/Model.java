import java.util.ArrayList;
import java.util.Arrays;
import java.util.List;
import java.util.NoSuchElementException;
import java.util.TreeMap;
import java.util.TreeSet;

/**
 * The document once more, in another form: lists of what happened, exact arithmetic that throws if it would go
 * round, shares given pack by pack. Slow and plain, to be compared with the program.
 */
final class Model {
    private record Shipment(int due, int units) {
    }

    private static final class ItemModel {
        int pack;
        int centre;
        final TreeSet<Integer> promotions = new TreeSet<>();
    }

    private static final class LineModel {
        int stock;
        long level;
        final long[] seasons = new long[7];
        final List<Integer> errors = new ArrayList<>();
        final List<Shipment> shipments = new ArrayList<>();
        int demandToday;
        int sold;
        int lost;
    }

    private final List<Integer> leads = new ArrayList<>();
    private final List<ItemModel> items = new ArrayList<>();
    private final TreeMap<Integer, LineModel> lines = new TreeMap<>();
    private int today = 0;
    private int service = 90;
    private int levelRate = 20;
    private int seasonRate = 10;

    private static void illegal(boolean is) {
        if (is) {
            throw new IllegalArgumentException();
        }
    }

    private static void full(boolean is) {
        if (is) {
            throw new IllegalStateException();
        }
    }

    private static boolean outside(int number, int least, int most) {
        return number < least || number > most;
    }

    private int shopThere(int shop) {
        if (outside(shop, 0, leads.size() - 1)) {
            throw new IndexOutOfBoundsException();
        }
        return shop;
    }

    private ItemModel itemThere(int item) {
        if (outside(item, 0, items.size() - 1)) {
            throw new IndexOutOfBoundsException();
        }
        return items.get(item);
    }

    private LineModel line(int shop, int item) {
        shopThere(shop);
        itemThere(item);
        LineModel found = lines.get(100 * item + shop);
        if (found == null) {
            throw new NoSuchElementException();
        }
        return found;
    }

    int addShop(int lead) {
        illegal(outside(lead, 1, 5));
        full(leads.size() == 4);
        leads.add(lead);
        return leads.size() - 1;
    }

    int addItem(int pack, int stock) {
        illegal(outside(pack, 1, 50) || outside(stock, 0, 9999));
        full(items.size() == 5);
        ItemModel added = new ItemModel();
        added.pack = pack;
        added.centre = stock;
        items.add(added);
        return items.size() - 1;
    }

    int carry(int shop, int item, int stock, int level) {
        shopThere(shop);
        itemThere(item);
        illegal(outside(stock, 0, 999) || outside(level, 0, 99999));
        full(carries(shop, item));
        LineModel added = new LineModel();
        added.stock = stock;
        added.level = level;
        Arrays.fill(added.seasons, 1000);
        lines.put(100 * item + shop, added);
        return lines.size();
    }

    boolean carries(int shop, int item) {
        shopThere(shop);
        itemThere(item);
        return lines.containsKey(100 * item + shop);
    }

    int supply(int item, int units) {
        ItemModel supplied = itemThere(item);
        illegal(outside(units, 1, 9999));
        full(supplied.centre + units > 99999);
        supplied.centre += units;
        return supplied.centre;
    }

    int setService(int percent) {
        illegal(outside(percent, 1, 100));
        int before = service;
        service = percent;
        return before;
    }

    int setRates(int level, int season) {
        illegal(outside(level, 0, 100) || outside(season, 0, 100));
        int before = levelRate;
        levelRate = level;
        seasonRate = season;
        return before;
    }

    boolean mark(int item, int day) {
        ItemModel marked = itemThere(item);
        illegal(outside(day, today, 999));
        return !marked.promotions.add(day);
    }

    boolean isMarked(int item, int day) {
        ItemModel asked = itemThere(item);
        illegal(outside(day, 0, 999));
        return asked.promotions.contains(day);
    }

    int demand(int shop, int item, int units) {
        LineModel line = line(shop, item);
        illegal(outside(units, 1, 99));
        if (line.demandToday + units > 999) {
            throw new UnsupportedOperationException();
        }
        int sold = units < line.stock ? units : line.stock;
        line.demandToday += units;
        line.stock -= sold;
        line.sold += sold;
        line.lost += units - sold;
        return sold;
    }

    int night() {
        full(today == 999);
        for (int key : lines.keySet()) {
            LineModel line = lines.get(key);
            if (!items.get(key / 100).promotions.contains(today)) {
                learn(line);
            }
        }
        today++;
        for (LineModel line : lines.values()) {
            line.demandToday = 0;
            for (Shipment shipment : line.shipments) {
                line.stock += shipment.due == today ? shipment.units : 0;
            }
        }
        int left = 0;
        for (int item = 0; item < items.size(); item++) {
            int[] shares = shares(item);
            for (int shop = 0; shop < shares.length; shop++) {
                left += shares[shop];
                if (shares[shop] > 0) {
                    int units = shares[shop] * items.get(item).pack;
                    items.get(item).centre -= units;
                    line(shop, item).shipments.add(new Shipment(today + leads.get(shop), units));
                }
            }
        }
        return left;
    }

    private void learn(LineModel line) {
        int weekday = today % 7;
        long units = Math.floorDiv(forecastOf(line, today) + 500, 1000L);
        line.errors.add((int) Math.min(20, Math.abs(line.demandToday - units)));
        long scaled = line.demandToday * 1000000L;
        long aim = Math.floorDiv(scaled, line.seasons[weekday]);
        line.level += Math.floorDiv(Math.multiplyExact((long) levelRate, aim - line.level), 100L);
        if (line.level > 0) {
            aim = Math.floorDiv(scaled, line.level);
            long more = Math.floorDiv(Math.multiplyExact((long) seasonRate, aim - line.seasons[weekday]), 100L);
            long season = line.seasons[weekday] + more;
            line.seasons[weekday] = season < 100 ? 100 : season > 5000 ? 5000 : season;
        }
    }

    private long forecastOf(LineModel line, int day) {
        return Math.floorDiv(Math.multiplyExact(line.level, line.seasons[day % 7]), 1000L);
    }

    int today() {
        return today;
    }

    int demandToday(int shop, int item) {
        return line(shop, item).demandToday;
    }

    int level(int shop, int item) {
        return Math.toIntExact(line(shop, item).level);
    }

    int season(int shop, int item, int weekday) {
        LineModel line = line(shop, item);
        illegal(outside(weekday, 0, 6));
        return (int) line.seasons[weekday];
    }

    int forecast(int shop, int item, int day) {
        LineModel line = line(shop, item);
        illegal(outside(day, today, 1099));
        return Math.toIntExact(forecastOf(line, day));
    }

    int errors(int shop, int item, int size) {
        LineModel line = line(shop, item);
        illegal(outside(size, 0, 20));
        return (int) line.errors.stream().filter(error -> error == size).count();
    }

    int safety(int shop, int item) {
        List<Integer> errors = line(shop, item).errors;
        int units = 0;
        while (errors.size() > 0 && percentNotAbove(errors, units) < service) {
            units++;
        }
        return units;
    }

    private static double percentNotAbove(List<Integer> errors, int units) {
        return 100.0 * errors.stream().filter(error -> error <= units).count() / errors.size();
    }

    int stock(int shop, int item) {
        return line(shop, item).stock;
    }

    int onWay(int shop, int item) {
        int sum = 0;
        for (Shipment shipment : line(shop, item).shipments) {
            sum += shipment.due > today ? shipment.units : 0;
        }
        return sum;
    }

    int nextArrival(int shop, int item) {
        for (Shipment shipment : line(shop, item).shipments) {
            if (shipment.due > today) {
                return shipment.due;
            }
        }
        throw new NoSuchElementException();
    }

    int need(int shop, int item) {
        LineModel line = line(shop, item);
        long sum = 0;
        for (int day = today; day <= today + leads.get(shop); day++) {
            sum += forecastOf(line, day);
        }
        long up = -Math.floorDiv(-sum, 1000L);
        return Math.toIntExact(up + safety(shop, item) - line.stock - onWay(shop, item));
    }

    int request(int shop, int item) {
        int need = need(shop, item);
        return need <= 0 ? 0 : -Math.floorDiv(-need, items.get(item).pack);
    }

    int share(int shop, int item) {
        line(shop, item);
        return shares(item)[shop];
    }

    private int[] shares(int item) {
        int[] requests = new int[leads.size()];
        int[] given = new int[leads.size()];
        for (int shop = 0; shop < requests.length; shop++) {
            requests[shop] = carries(shop, item) ? request(shop, item) : 0;
        }
        int packs = items.get(item).centre / items.get(item).pack;
        for (; packs > 0; packs--) {
            int next = -1;
            for (int shop = requests.length - 1; shop >= 0; shop--) {
                if (given[shop] < requests[shop] && (next < 0
                        || (long) given[shop] * requests[next] <= (long) given[next] * requests[shop])) {
                    next = shop;
                }
            }
            if (next < 0) {
                return given;
            }
            given[next]++;
        }
        return given;
    }

    int centre(int item) {
        return itemThere(item).centre;
    }

    int sold(int shop, int item) {
        return line(shop, item).sold;
    }

    int lost(int shop, int item) {
        return line(shop, item).lost;
    }

    long units() {
        long sum = 0;
        for (ItemModel item : items) {
            sum += item.centre;
        }
        for (int key : lines.keySet()) {
            sum += lines.get(key).stock + (long) onWay(key % 100, key / 100);
        }
        return sum;
    }

    float service(int shop) {
        shopThere(shop);
        int sold = 0;
        int lost = 0;
        for (int key : lines.keySet()) {
            if (key % 100 == shop) {
                sold += lines.get(key).sold;
                lost += lines.get(key).lost;
            }
        }
        if (sold + lost == 0) {
            throw new NoSuchElementException();
        }
        return (float) sold / (float) (sold + lost);
    }
}
