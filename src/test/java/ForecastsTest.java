import java.util.NoSuchElementException;

/** Promises 15 to 20: forecasts. */
public final class ForecastsTest {
    private static final Checks checks = new Checks();

    public static void main(String[] args) {
        levels();
        levelsRoundDown();
        levelsByDays();
        seasons();
        seasonEdges();
        greatLevels();
        forecasts();
        errors();
        safety();
        wrongLines();
        checks.end();
    }

    private static Replen oneLine(int stock, int level) {
        Replen x = new Replen();
        x.addShop(1);
        x.addItem(1, 0);
        x.carry(0, 0, stock, level);
        return x;
    }

    private static void levels() {
        Replen x = oneLine(0, 5000);
        x.demand(0, 0, 16);
        checks.same("15 not before night", x.level(0, 0), 5000);
        x.night();
        checks.same("15 20 percent of 11000 more", x.level(0, 0), 7200);
        x.mark(0, 1);
        x.demand(0, 0, 99);
        x.night();
        checks.same("15 a promotion teaches nothing", x.level(0, 0), 7200);
        checks.same("16 a promotion teaches nothing", x.levelByDays(0, 0), 7200);
        checks.same("17 a promotion teaches nothing", x.season(0, 0, 1), 1000);
        checks.same("19 a promotion counts no error", x.errors(0, 0, 20), 0);
        x.night();
        checks.same("15 a day without demand", x.level(0, 0), 5760);
        checks.same("16 a day without demand", x.levelByDays(0, 0), 5760);
    }

    private static void levelsRoundDown() {
        Replen x = oneLine(0, 4);
        x.night();
        checks.same("15 -80 / 100 is -1", x.level(0, 0), 3);
        x.setRates(100, 0);
        x.night();
        checks.same("15 0", x.level(0, 0), 0);
        x.night();
        checks.same("15 stays 0", x.level(0, 0), 0);
        checks.same("16 0", x.levelByDays(0, 0), 0);

        Replen y = oneLine(0, 5000);
        y.setRates(0, 3);
        y.night();
        checks.same("17 970", y.season(0, 0, 0), 970);
        for (int nights = 0; nights < 6; nights++) {
            y.night();
        }
        y.setRates(100, 0);
        y.demand(0, 0, 1);
        y.night();
        checks.same("15 1000000 / 970 is 1030", y.level(0, 0), 1030);
        checks.same("16 1000000 / 970 is 1030", y.levelByDays(0, 0), 1030);
    }

    private static void levelsByDays() {
        Replen x = oneLine(0, 1000);
        x.addItem(1, 0);
        x.night();
        x.setRates(50, 70);
        x.carry(0, 1, 0, 2000);
        x.mark(1, 2);
        int[] demands = {3, 0, 9, 1, 12, 7, 2, 30, 4, 5, 6, 0, 1, 2, 3, 49, 1};
        for (int i = 0; i < demands.length; i++) {
            if (demands[i] > 0) {
                x.demand(0, 0, demands[i]);
                x.demand(0, 1, 2 * demands[i]);
            }
            if (i == 9) {
                x.setRates(33, 44);
            }
            x.night();
            checks.same("16 first line", x.levelByDays(0, 0), x.level(0, 0));
            checks.same("16 line of a later day", x.levelByDays(0, 1), x.level(0, 1));
        }
        checks.same("16 the seasons stay", x.season(0, 1, 2) != 1000, true);
        x.demand(0, 0, 9);
        x.setRates(100, 100);
        checks.same("16 today is not learned", x.levelByDays(0, 0), x.level(0, 0));
    }

    private static void seasons() {
        Replen x = oneLine(0, 5000);
        for (int weekday = 0; weekday < 7; weekday++) {
            checks.same("17 at first", x.season(0, 0, weekday), 1000);
        }
        x.demand(0, 0, 16);
        x.night();
        checks.same("17 10 percent of 1222 more, by the new level", x.season(0, 0, 0), 1122);
        checks.same("17 other weekday", x.season(0, 0, 1), 1000);
        checks.same("17 other weekday", x.season(0, 0, 6), 1000);
        for (int nights = 0; nights < 6; nights++) {
            x.mark(0, x.today());
            x.night();
        }
        x.setRates(0, 100);
        x.demand(0, 0, 18);
        x.night();
        checks.same("17 the weekday comes again", x.season(0, 0, 0), 2500);
        checks.fails("17 weekday -1", IllegalArgumentException.class, () -> x.season(0, 0, -1));
        checks.fails("17 weekday 7", IllegalArgumentException.class, () -> x.season(0, 0, 7));
        checks.fails("17 shop goes first", IndexOutOfBoundsException.class, () -> x.season(1, 0, 7));
    }

    private static void seasonEdges() {
        Replen x = oneLine(0, 5000);
        x.setRates(0, 100);
        x.night();
        checks.same("17 at least 100", x.season(0, 0, 0), 100);
        x.demand(0, 0, 25);
        x.night();
        checks.same("17 5000", x.season(0, 0, 1), 5000);
        x.demand(0, 0, 26);
        x.night();
        checks.same("17 at most 5000", x.season(0, 0, 2), 5000);
        x.setRates(0, 91);
        x.night();
        checks.same("17 at least 100 again", x.season(0, 0, 3), 100);
        x.setRates(0, 89);
        x.night();
        checks.same("17 110", x.season(0, 0, 4), 110);

        Replen down = oneLine(0, 5000);
        down.setRates(0, 3);
        for (int nights = 0; nights < 8; nights++) {
            down.night();
        }
        checks.same("17 970 less 29.1 is 940", down.season(0, 0, 0), 940);

        Replen small = oneLine(0, 1);
        small.setRates(0, 100);
        for (int times = 0; times < 10; times++) {
            small.demand(0, 0, 99);
        }
        small.demand(0, 0, 9);
        small.night();
        checks.same("17 999000000 times 100 never goes round", small.season(0, 0, 0), 5000);
        small.setRates(100, 100);
        small.night();
        checks.same("15 level 0", small.level(0, 0), 0);
        checks.same("17 a level of 0 leaves the season", small.season(0, 0, 1), 1000);
    }

    private static void greatLevels() {
        Replen x = oneLine(0, 1);
        x.setRates(0, 100);
        x.night();
        checks.same("17 100", x.season(0, 0, 0), 100);
        x.demand(0, 0, 1);
        x.night();
        checks.same("17 5000", x.season(0, 0, 1), 5000);
        x.setRates(0, 0);
        for (int nights = 0; nights < 5; nights++) {
            x.night();
        }
        for (int times = 0; times < 10; times++) {
            x.demand(0, 0, 99);
        }
        x.demand(0, 0, 9);
        x.setRates(100, 100);
        x.night();
        checks.same("15 greatest", x.level(0, 0), 9990000);
        checks.same("16 greatest", x.levelByDays(0, 0), 9990000);
        checks.same("18 greatest", x.forecast(0, 0, 8), 49950000);
        checks.same("18 least of them", x.forecast(0, 0, 14), 999000);
        checks.same("25 of greatest: 49950 + 9990 + error 20", x.need(0, 0), 59960);
    }

    private static void forecasts() {
        Replen x = oneLine(0, 1999);
        x.setRates(0, 1);
        checks.same("18 today", x.forecast(0, 0, 0), 1999);
        checks.same("18 last", x.forecast(0, 0, 1099), 1999);
        checks.fails("18 day -1", IllegalArgumentException.class, () -> x.forecast(0, 0, -1));
        checks.fails("18 day 1100", IllegalArgumentException.class, () -> x.forecast(0, 0, 1100));
        x.night();
        checks.same("17 990", x.season(0, 0, 0), 990);
        checks.same("18 1979.01 down", x.forecast(0, 0, 7), 1979);
        checks.same("18 other weekday", x.forecast(0, 0, 8), 1999);
        checks.same("18 1099 is a weekday 0", x.forecast(0, 0, 1099), 1979);
        checks.same("18 1098 is a weekday 6", x.forecast(0, 0, 1098), 1999);
        checks.same("18 today is 1", x.forecast(0, 0, 1), 1999);
        checks.fails("18 before today", IllegalArgumentException.class, () -> x.forecast(0, 0, 0));
        checks.fails("18 item goes first", IndexOutOfBoundsException.class, () -> x.forecast(0, 1, 0));
    }

    private static int errorOfFirstDay(int level, int demand) {
        Replen x = oneLine(0, level);
        for (int left = demand; left > 0; left -= 99) {
            x.demand(0, 0, Math.min(left, 99));
        }
        x.night();
        int found = -1;
        for (int size = 0; size <= 20; size++) {
            int times = x.errors(0, 0, size);
            checks.same("19 once or never", times == 0 || times == 1 && found < 0, true);
            found = times == 1 ? size : found;
        }
        return found;
    }

    private static void errors() {
        checks.same("19 499 is no unit", errorOfFirstDay(499, 0), 0);
        checks.same("19 500 is a unit", errorOfFirstDay(500, 0), 1);
        checks.same("19 1499 is a unit", errorOfFirstDay(1499, 1), 0);
        checks.same("19 1500 is two", errorOfFirstDay(1500, 1), 1);
        checks.same("19 without sign", errorOfFirstDay(1000, 8), 7);
        checks.same("19 19", errorOfFirstDay(0, 19), 19);
        checks.same("19 20", errorOfFirstDay(0, 20), 20);
        checks.same("19 at most 20", errorOfFirstDay(0, 21), 20);
        checks.same("19 at most 20 of 999", errorOfFirstDay(0, 999), 20);
        checks.same("19 at most 20 of -100", errorOfFirstDay(99999, 0), 20);

        Replen x = oneLine(0, 3000);
        x.setRates(0, 0);
        checks.same("19 before any", x.errors(0, 0, 3), 0);
        for (int nights = 0; nights < 9; nights++) {
            x.night();
        }
        checks.same("19 times", x.errors(0, 0, 3), 9);
        checks.fails("19 error -1", IllegalArgumentException.class, () -> x.errors(0, 0, -1));
        checks.fails("19 error 21", IllegalArgumentException.class, () -> x.errors(0, 0, 21));
        checks.fails("19 shop goes first", IndexOutOfBoundsException.class, () -> x.errors(-1, 0, 21));
    }

    private static void safety() {
        Replen x = oneLine(0, 3000);
        x.setRates(0, 0);
        checks.same("20 none counted", x.safety(0, 0), 0);
        int[] demands = {3, 3, 3, 4, 3, 2, 3, 3, 3, 12};
        for (int i = 0; i < demands.length; i++) {
            x.demand(0, 0, demands[i]);
            x.night();
        }
        x.setService(1);
        checks.same("20 of 1", x.safety(0, 0), 0);
        x.setService(70);
        checks.same("20 of 70", x.safety(0, 0), 0);
        x.setService(71);
        checks.same("20 of 71", x.safety(0, 0), 1);
        x.setService(90);
        checks.same("20 of 90", x.safety(0, 0), 1);
        x.setService(91);
        checks.same("20 of 91", x.safety(0, 0), 9);
        x.setService(100);
        checks.same("20 of 100", x.safety(0, 0), 9);
        x.demand(0, 0, 99);
        x.night();
        checks.same("20 at most 20", x.safety(0, 0), 20);
        x.setService(90);
        checks.same("20 90.9 percent", x.safety(0, 0), 1 + 8);
    }

    private static void wrongLines() {
        Replen x = oneLine(0, 0);
        x.addShop(1);
        checks.fails("15 shop", IndexOutOfBoundsException.class, () -> x.level(2, 0));
        checks.fails("15 item", IndexOutOfBoundsException.class, () -> x.level(1, 1));
        checks.fails("15 line", NoSuchElementException.class, () -> x.level(1, 0));
        checks.fails("16 shop", IndexOutOfBoundsException.class, () -> x.levelByDays(2, 0));
        checks.fails("16 item", IndexOutOfBoundsException.class, () -> x.levelByDays(1, 1));
        checks.fails("16 line", NoSuchElementException.class, () -> x.levelByDays(1, 0));
        checks.fails("17 shop", IndexOutOfBoundsException.class, () -> x.season(2, 0, 0));
        checks.fails("17 item", IndexOutOfBoundsException.class, () -> x.season(1, 1, 0));
        checks.fails("17 line", NoSuchElementException.class, () -> x.season(1, 0, 7));
        checks.fails("18 shop", IndexOutOfBoundsException.class, () -> x.forecast(2, 0, 0));
        checks.fails("18 item", IndexOutOfBoundsException.class, () -> x.forecast(1, 1, 0));
        checks.fails("18 line", NoSuchElementException.class, () -> x.forecast(1, 0, 1100));
        checks.fails("19 shop", IndexOutOfBoundsException.class, () -> x.errors(2, 0, 0));
        checks.fails("19 item", IndexOutOfBoundsException.class, () -> x.errors(1, 1, 0));
        checks.fails("19 line", NoSuchElementException.class, () -> x.errors(1, 0, 21));
        checks.fails("20 shop", IndexOutOfBoundsException.class, () -> x.safety(2, 0));
        checks.fails("20 item", IndexOutOfBoundsException.class, () -> x.safety(1, 1));
        checks.fails("20 line", NoSuchElementException.class, () -> x.safety(1, 0));
    }
}
