import java.util.Random;
import java.util.function.Supplier;

/** Runs of 512 calls, all promises, compared call by call with the model. The runs are the same each time. */
public final class RandomRunsTest {
    private static final int RUNS = 400;
    private static final int CALLS = 512;
    private static final int[] STRANGE = {Integer.MIN_VALUE, -1, 0, 1, 6, 7, 20, 21, 99, 100, 101, 999, 1000, 1099,
        1100, 9999, 10000, 99999, 100000, Integer.MAX_VALUE};
    private static final int[] RATES = {0, 1, 3, 10, 20, 50, 99, 100};
    private static final int[] STOCKS = {0, 1, 10, 100, 999};
    private static final int[] LEVELS = {0, 1, 7, 499, 500, 1000, 12345, 50000, 99999};
    private static final int[] PACKS = {1, 1, 2, 3, 7, 12, 50};

    private final Checks checks;
    private final Random random;
    private final Replen x = new Replen();
    private final Model model = new Model();
    private final String name;
    private final int shops;
    private final int items;
    private final boolean oddRates;
    private final int nightsOf100;
    private final int looksOf100;
    private int calls = 0;

    private RandomRunsTest(Checks checks, int run) {
        this.checks = checks;
        name = "run " + run + " ";
        random = new Random(run);
        shops = 1 + random.nextInt(4);
        items = 1 + random.nextInt(5);
        oddRates = random.nextInt(3) == 0;
        nightsOf100 = 3 + random.nextInt(40);
        looksOf100 = 20 + random.nextInt(50);
    }

    public static void main(String[] args) {
        Checks checks = new Checks();
        for (int run = 0; run < RUNS; run++) {
            new RandomRunsTest(checks, run).run();
        }
        checks.end();
    }

    private static String answer(Supplier<Object> call) {
        try {
            return String.valueOf(call.get());
        } catch (RuntimeException e) {
            return "throws." + e.getClass().getSimpleName();
        }
    }

    private void both(String call, Supplier<Object> got, Supplier<Object> due) {
        if (calls < CALLS) {
            calls++;
            checks.same(name + calls + ": " + call, answer(got), answer(due));
        }
    }

    private int oneOf(int[] numbers) {
        return numbers[random.nextInt(numbers.length)];
    }

    private int number(int usual) {
        return random.nextInt(25) == 0 ? oneOf(STRANGE) : usual;
    }

    private int shop() {
        return number(random.nextInt(shops));
    }

    private int item() {
        return number(random.nextInt(items));
    }

    private void run() {
        for (int shop = 0; shop < shops; shop++) {
            addShop(1 + random.nextInt(5));
        }
        for (int item = 0; item < items; item++) {
            addItem(oneOf(PACKS), random.nextInt(3) * random.nextInt(4000));
        }
        if (oddRates) {
            setRates(100, 100);
        }
        for (int lines = shops * items; lines > 0; lines--) {
            carry(random.nextInt(shops), random.nextInt(items));
        }
        int burst = 0;
        int burstShop = 0;
        int burstItem = 0;
        while (calls < CALLS) {
            int chance = random.nextInt(100);
            if (burst > 0) {
                burst--;
                demand(burstShop, burstItem, 99);
            } else if (chance < nightsOf100) {
                both("night()", () -> x.night(), () -> model.night());
            } else if (chance < nightsOf100 + looksOf100) {
                look(shop(), item());
            } else if (chance == 99) {
                burst = 11;
                burstShop = random.nextInt(shops);
                burstItem = random.nextInt(items);
            } else {
                act(shop(), item());
            }
        }
    }

    private void addShop(int lead) {
        both("addShop(" + lead + ")", () -> x.addShop(lead), () -> model.addShop(lead));
    }

    private void addItem(int pack, int stock) {
        both("addItem(" + pack + ", " + stock + ")", () -> x.addItem(pack, stock), () -> model.addItem(pack, stock));
    }

    private void carry(int shop, int item) {
        int stock = number(oneOf(STOCKS));
        int level = number(oneOf(LEVELS));
        both("carry(" + shop + ", " + item + ", " + stock + ", " + level + ")",
            () -> x.carry(shop, item, stock, level), () -> model.carry(shop, item, stock, level));
    }

    private void setRates(int level, int season) {
        both("setRates(" + level + ", " + season + ")", () -> x.setRates(level, season),
            () -> model.setRates(level, season));
    }

    private void demand(int shop, int item, int units) {
        both("demand(" + shop + ", " + item + ", " + units + ")", () -> x.demand(shop, item, units),
            () -> model.demand(shop, item, units));
    }

    private void mark(int item, int day) {
        both("mark(" + item + ", " + day + ")", () -> x.mark(item, day), () -> model.mark(item, day));
        both("isMarked(" + item + ", " + day + ")", () -> x.isMarked(item, day), () -> model.isMarked(item, day));
    }

    private void act(int shop, int item) {
        int chance = random.nextInt(100);
        if (chance < 60) {
            demand(shop, item, number(1 + random.nextInt(random.nextBoolean() ? 12 : 99)));
        } else if (chance < 72) {
            int units = number(random.nextInt(4) == 0 ? 9999 : 1 + random.nextInt(500));
            both("supply(" + item + ", " + units + ")", () -> x.supply(item, units), () -> model.supply(item, units));
        } else if (chance < 80) {
            mark(item, number(model.today() + random.nextInt(10) - 1));
        } else if (chance < 86) {
            int percent = number(oddRates ? 1 + random.nextInt(100) : 80 + random.nextInt(21));
            both("setService(" + percent + ")", () -> x.setService(percent), () -> model.setService(percent));
        } else if (chance < 92) {
            setRates(number(oneOf(RATES)), number(oneOf(RATES)));
        } else if (chance < 96) {
            carry(shop, item);
        } else if (chance < 98) {
            addShop(number(1 + random.nextInt(5)));
        } else {
            addItem(number(oneOf(PACKS)), number(random.nextInt(9999)));
        }
    }

    private void look(int shop, int item) {
        int weekday = number(random.nextInt(7));
        int day = number(model.today() + random.nextInt(9) - 1);
        int size = number(random.nextInt(21));
        String line = "(" + shop + ", " + item + ")";
        switch (random.nextInt(23)) {
            case 0 -> both("carries" + line, () -> x.carries(shop, item), () -> model.carries(shop, item));
            case 1 -> both("isMarked", () -> x.isMarked(item, day), () -> model.isMarked(item, day));
            case 2 -> both("today()", () -> x.today(), () -> model.today());
            case 3 -> both("demandToday" + line, () -> x.demandToday(shop, item), () -> model.demandToday(shop, item));
            case 4 -> both("level" + line, () -> x.level(shop, item), () -> model.level(shop, item));
            case 5 -> both("levelByDays" + line, () -> x.levelByDays(shop, item), () -> model.level(shop, item));
            case 6 -> both("season" + line + weekday, () -> x.season(shop, item, weekday),
                () -> model.season(shop, item, weekday));
            case 7 -> both("forecast" + line + day, () -> x.forecast(shop, item, day),
                () -> model.forecast(shop, item, day));
            case 8 -> both("errors" + line + size, () -> x.errors(shop, item, size),
                () -> model.errors(shop, item, size));
            case 9 -> both("safety" + line, () -> x.safety(shop, item), () -> model.safety(shop, item));
            case 10 -> both("stock" + line, () -> x.stock(shop, item), () -> model.stock(shop, item));
            case 11 -> both("stockByJournal" + line, () -> x.stockByJournal(shop, item),
                () -> model.stock(shop, item));
            case 12 -> both("onWay" + line, () -> x.onWay(shop, item), () -> model.onWay(shop, item));
            case 13 -> both("nextArrival" + line, () -> x.nextArrival(shop, item), () -> model.nextArrival(shop, item));
            case 14 -> both("need" + line, () -> x.need(shop, item), () -> model.need(shop, item));
            case 15 -> both("request" + line, () -> x.request(shop, item), () -> model.request(shop, item));
            case 16 -> both("share" + line, () -> x.share(shop, item), () -> model.share(shop, item));
            case 17 -> both("shareByPacks" + line, () -> x.shareByPacks(shop, item), () -> model.share(shop, item));
            case 18 -> both("centre", () -> x.centre(item), () -> model.centre(item));
            case 19 -> both("centreByJournal", () -> x.centreByJournal(item), () -> model.centre(item));
            case 20 -> both("sold" + line, () -> x.sold(shop, item), () -> model.sold(shop, item));
            case 21 -> both("lost" + line, () -> x.lost(shop, item), () -> model.lost(shop, item));
            default -> {
                both("units()", () -> x.units(), () -> model.units());
                both("service(" + shop + ")", () -> x.service(shop), () -> model.service(shop));
            }
        }
    }
}
