/** Edges of the document's sentences on weekdays, forecasts, learning and safety, each by itself. */
public final class LearningEdgesTest {
    private static final Checks checks = new Checks();

    public static void main(String[] args) {
        atFirst();
        carriedLater();
        weekdaysComeAgain();
        forecastsRoundDown();
        forecastsInUnits();
        promotionsOfTheItem();
        promotionsOfTheDay();
        errorsWithoutSign();
        errorsAtMost();
        levelsFallRoundedDown();
        levelsRiseRoundedDown();
        demandBySeasonRoundsDown();
        bothQuotientsRoundDown();
        ratesAtTheirEnds();
        seasonsMoveRoundedDown();
        seasonsByTheNewLevel();
        seasonAtItsLeast();
        seasonAtItsGreatest();
        levelOfNothing();
        levelThatBecomesNothing();
        levelOutOfNothing();
        nothingGoesRound();
        safetyOfNoError();
        safetyByService();
        safetyJustShortOfService();
        safetyAtItsGreatest();
        levelByDaysOfNoDay();
        levelByDaysOfRates();
        checks.end();
    }

    private static void atFirst() {
        Replen x = Planners.oneLine(1, 1, 0, 0, 5000);
        checks.same("the day 0 at first", x.today(), 0);
        for (int weekday = 0; weekday < 7; weekday++) {
            checks.same("17 1000 at first", x.season(0, 0, weekday), 1000);
        }
        for (int size = 0; size <= 20; size++) {
            checks.same("19 0 at first", x.errors(0, 0, size), 0);
        }
        checks.same("14 0 at first", x.demandToday(0, 0), 0);
        checks.same("7 90 at first", x.setService(50), 90);
        checks.same("8 20 at first", x.setRates(50, 50), 20);
        Replen rates = Planners.oneLine(1, 1, 0, 0, 5000);
        rates.night();
        checks.same("15 by 20 percent", rates.level(0, 0), 4000);
        checks.same("17 by 10 percent", rates.season(0, 0, 0), 900);
    }

    /** A line begins anew on the day on which it is carried, and learns that very day. */
    private static void carriedLater() {
        Replen x = Planners.oneLine(1, 1, 0, 0, 5000);
        x.addItem(1, 0);
        for (int day = 0; day < 3; day++) {
            Planners.day(x, 9);
        }
        x.carry(0, 1, 0, 5000);
        checks.same("15 as it was carried", x.level(0, 1), 5000);
        checks.same("16 as it was carried", x.levelByDays(0, 1), 5000);
        for (int weekday = 0; weekday < 7; weekday++) {
            checks.same("17 as it was carried", x.season(0, 1, weekday), 1000);
        }
        checks.same("20 as it was carried", x.safety(0, 1), 0);
        x.night();
        checks.same("15 learns that day", x.level(0, 1), 4000);
        checks.same("16 learns that day", x.levelByDays(0, 1), 4000);
        checks.same("17 learns that day", x.season(0, 1, 3), 900);
        checks.same("19 learns that day", x.errors(0, 1, 5), 1);
        checks.same("17 not the day 0", x.season(0, 1, 0), 1000);
    }

    /** A week in which the season of the weekday w becomes 1000 + 200 * w; the level stays 5000. */
    private static Replen weekOfSeasons() {
        Replen x = Planners.learner(5000, 0, 100);
        for (int weekday = 0; weekday < 7; weekday++) {
            Planners.day(x, 5 + weekday);
        }
        return x;
    }

    private static void weekdaysComeAgain() {
        Replen x = weekOfSeasons();
        for (int weekday = 0; weekday < 7; weekday++) {
            checks.same("17 of each weekday", x.season(0, 0, weekday), 1000 + 200 * weekday);
        }
        checks.same("18 day 7 is the weekday 0", x.forecast(0, 0, 7), 5000);
        checks.same("18 day 13 is the weekday 6", x.forecast(0, 0, 13), 11000);
        checks.same("18 day 14 is the weekday 0", x.forecast(0, 0, 14), 5000);
        checks.same("18 day 1098 is the weekday 6", x.forecast(0, 0, 1098), 11000);
        checks.same("18 day 1099 is the weekday 0", x.forecast(0, 0, 1099), 5000);
        Planners.day(x, 20);
        checks.same("17 day 7 teaches the weekday 0", x.season(0, 0, 0), 4000);
        checks.same("17 day 7 leaves the weekday 1", x.season(0, 0, 1), 1200);
        checks.same("17 day 7 leaves the weekday 6", x.season(0, 0, 6), 2200);
        checks.same("18 day 1099 as the weekday 0", x.forecast(0, 0, 1099), 20000);
    }

    private static int forecastBySeason990(int level) {
        Replen x = Planners.learner(level, 0, 1);
        x.night();
        checks.same("17 10 less", x.season(0, 0, 0), 990);
        return x.forecast(0, 0, 7);
    }

    private static void forecastsRoundDown() {
        checks.same("18 0.99", forecastBySeason990(1), 0);
        checks.same("18 1.98", forecastBySeason990(2), 1);
        checks.same("18 99.00", forecastBySeason990(100), 99);
        checks.same("18 989.01", forecastBySeason990(999), 989);
        checks.same("18 98999.01", forecastBySeason990(99999), 98999);
    }

    /** The one error that the first day counts. */
    private static int errorOf(int level, int demand) {
        Replen x = Planners.learner(level, 0, 0);
        Planners.day(x, demand);
        int found = -1;
        int all = 0;
        for (int size = 0; size <= 20; size++) {
            int times = x.errors(0, 0, size);
            all += times;
            found = times == 1 ? size : found;
        }
        checks.same("19 one a day", all, 1);
        return found;
    }

    private static void forecastsInUnits() {
        checks.same("19 forecast 0", errorOf(0, 0), 0);
        checks.same("19 forecast 499 is no unit", errorOf(499, 0), 0);
        checks.same("19 forecast 500 is 1", errorOf(500, 0), 1);
        checks.same("19 forecast 1499 is 1", errorOf(1499, 0), 1);
        checks.same("19 forecast 1500 is 2", errorOf(1500, 0), 2);
        checks.same("19 forecast 9500 is 10", errorOf(9500, 10), 0);
    }

    private static void promotionsOfTheItem() {
        Replen x = Planners.oneLine(1, 1, 0, 0, 5000);
        x.addItem(1, 0);
        x.addShop(1);
        x.carry(0, 1, 0, 5000);
        x.carry(1, 0, 0, 5000);
        x.mark(0, 0);
        Planners.bring(x, 0, 0, 30);
        x.night();
        checks.same("15 a promotion", x.level(0, 0), 5000);
        checks.same("15 a promotion in every shop", x.level(1, 0), 5000);
        checks.same("17 a promotion", x.season(0, 0, 0), 1000);
        checks.same("19 a promotion", x.errors(0, 0, 20), 0);
        checks.same("16 a promotion", x.levelByDays(0, 0), 5000);
        checks.same("15 none of the other item", x.level(0, 1), 4000);
        checks.same("16 none of the other item", x.levelByDays(0, 1), 4000);
        checks.same("17 none of the other item", x.season(0, 1, 0), 900);
        checks.same("19 none of the other item", x.errors(0, 1, 5), 1);
    }

    private static void promotionsOfTheDay() {
        Replen x = Planners.learner(5000, 20, 0);
        x.mark(0, 1);
        x.night();
        checks.same("15 the day before", x.level(0, 0), 4000);
        Planners.day(x, 99);
        checks.same("15 the day", x.level(0, 0), 4000);
        x.night();
        checks.same("15 the day behind", x.level(0, 0), 3200);
        Planners.bring(x, 0, 0, 99);
        x.mark(0, 3);
        x.night();
        checks.same("15 marked behind the demand", x.level(0, 0), 3200);
        for (int day = 4; day < 8; day++) {
            Planners.dayOfPromotion(x);
        }
        x.night();
        checks.same("15 the weekday of a promotion comes again", x.level(0, 0), 2560);
        checks.same("16 of all these days", x.levelByDays(0, 0), 2560);
        checks.same("19 three days counted", x.errors(0, 0, 5) + x.errors(0, 0, 4) + x.errors(0, 0, 3), 3);
    }

    private static void errorsWithoutSign() {
        checks.same("19 5 more", errorOf(7000, 12), 5);
        checks.same("19 5 less", errorOf(12000, 7), 5);
        checks.same("19 as forecast", errorOf(12000, 12), 0);
        checks.same("19 1 more", errorOf(12000, 13), 1);
        checks.same("19 1 less", errorOf(12000, 11), 1);
    }

    private static void errorsAtMost() {
        checks.same("19 19 more", errorOf(0, 19), 19);
        checks.same("19 20 more", errorOf(0, 20), 20);
        checks.same("19 21 more", errorOf(0, 21), 20);
        checks.same("19 999 more", errorOf(0, 999), 20);
        checks.same("19 19 less", errorOf(19000, 0), 19);
        checks.same("19 20 less", errorOf(20000, 0), 20);
        checks.same("19 21 less", errorOf(21000, 0), 20);
        checks.same("19 100 less", errorOf(99999, 0), 20);
    }

    private static int levelBehindDay(int level, int rate, int demand) {
        Replen x = Planners.learner(level, rate, 0);
        Planners.day(x, demand);
        checks.same("16 of one day", x.levelByDays(0, 0), x.level(0, 0));
        return x.level(0, 0);
    }

    private static void levelsFallRoundedDown() {
        checks.same("15 5 less 1", levelBehindDay(5, 20, 0), 4);
        checks.same("15 6 less 1.2", levelBehindDay(6, 20, 0), 4);
        checks.same("15 4 less 0.8", levelBehindDay(4, 20, 0), 3);
        checks.same("15 1 less 0.01", levelBehindDay(1, 1, 0), 0);
        checks.same("15 100 less 1", levelBehindDay(100, 1, 0), 99);
        checks.same("15 101 less 1.01", levelBehindDay(101, 1, 0), 99);
        checks.same("15 3 less 2.97", levelBehindDay(3, 99, 0), 0);
        checks.same("15 1001 less 0.5", levelBehindDay(1001, 50, 1), 1000);
    }

    private static void levelsRiseRoundedDown() {
        checks.same("15 0 and 10", levelBehindDay(0, 1, 1), 10);
        checks.same("15 999 and 0.03", levelBehindDay(999, 3, 1), 999);
        checks.same("15 999 and 0.99", levelBehindDay(999, 99, 1), 999);
        checks.same("15 999 and 1", levelBehindDay(999, 100, 1), 1000);
        checks.same("15 as the demand", levelBehindDay(7000, 50, 7), 7000);
    }

    private static int levelBySeason990(int level, int rate, int demand) {
        Replen x = Planners.learner(level, 0, 1);
        x.night();
        for (int day = 1; day < 7; day++) {
            Planners.dayOfPromotion(x);
        }
        checks.same("17 10 less", x.season(0, 0, 0), 990);
        x.setRates(rate, 0);
        Planners.day(x, demand);
        checks.same("16 by the season", x.levelByDays(0, 0), x.level(0, 0));
        return x.level(0, 0);
    }

    private static void demandBySeasonRoundsDown() {
        checks.same("15 0", levelBySeason990(5000, 100, 0), 0);
        checks.same("15 1010.1", levelBySeason990(5000, 100, 1), 1010);
        checks.same("15 98989.9", levelBySeason990(5000, 100, 98), 98989);
        checks.same("15 100000", levelBySeason990(5000, 100, 99), 100000);
    }

    /** Were the demand's quotient not rounded down by itself, ahead of the rate, each of these would be 1 more. */
    private static void bothQuotientsRoundDown() {
        checks.same("15 1 and 99 percent of 98989.9 - 1", levelBySeason990(1, 99, 98), 97999);
        checks.same("17 1000 and 3 percent of 666.7 - 1000", seasonBehindDay(3000, 3, 2), 989);
    }

    private static void ratesAtTheirEnds() {
        checks.same("15 a rate of 0 with demand", levelBehindDay(5000, 0, 99), 5000);
        checks.same("15 a rate of 0 without", levelBehindDay(5000, 0, 0), 5000);
        checks.same("15 a rate of 100 with demand", levelBehindDay(5000, 100, 99), 99000);
        checks.same("15 a rate of 100 without", levelBehindDay(5000, 100, 0), 0);
        checks.same("17 a rate of 0 with demand", seasonBehindDay(5000, 0, 99), 1000);
        checks.same("17 a rate of 0 without", seasonBehindDay(5000, 0, 0), 1000);
        checks.same("17 a rate of 100", seasonBehindDay(5000, 100, 9), 1800);
    }

    private static int seasonBehindDay(int level, int rate, int demand) {
        Replen x = Planners.learner(level, 0, rate);
        Planners.day(x, demand);
        for (int weekday = 1; weekday < 7; weekday++) {
            checks.same("17 other weekdays", x.season(0, 0, weekday), 1000);
        }
        return x.season(0, 0, 0);
    }

    private static void seasonsMoveRoundedDown() {
        checks.same("17 less 6.67", seasonBehindDay(3000, 1, 1), 993);
        checks.same("17 less 0.01", seasonBehindDay(3001, 1, 3), 999);
        checks.same("17 less 10", seasonBehindDay(3000, 1, 0), 990);
        checks.same("17 as the demand", seasonBehindDay(3000, 1, 3), 1000);
        checks.same("17 and 6.66", seasonBehindDay(3000, 1, 5), 1006);
        checks.same("17 and 0.99", seasonBehindDay(1998, 99, 2), 1000);
        checks.same("17 714.28", seasonBehindDay(7000, 100, 5), 714);
        Replen x = Planners.learner(5000, 0, 1);
        for (int day = 0; day < 8; day++) {
            x.night();
        }
        checks.same("17 990 less 9.9", x.season(0, 0, 0), 980);
    }

    private static void seasonsByTheNewLevel() {
        Replen x = Planners.learner(5000, 100, 100);
        Planners.day(x, 10);
        checks.same("15 as the demand", x.level(0, 0), 10000);
        checks.same("17 by 10000, not 5000", x.season(0, 0, 0), 1000);
        Replen y = Planners.learner(0, 100, 100);
        Planners.day(y, 3);
        checks.same("15 out of 0", y.level(0, 0), 3000);
        checks.same("17 by 3000, not 0", y.season(0, 0, 0), 1000);
    }

    private static void seasonAtItsLeast() {
        checks.same("17 110", seasonBehindDay(5000, 89, 0), 110);
        checks.same("17 100", seasonBehindDay(5000, 90, 0), 100);
        checks.same("17 90", seasonBehindDay(5000, 91, 0), 100);
        checks.same("17 0", seasonBehindDay(5000, 100, 0), 100);
        checks.same("17 101", seasonBehindDay(9900, 100, 1), 101);
        checks.same("17 100 by demand", seasonBehindDay(10000, 100, 1), 100);
        checks.same("17 99", seasonBehindDay(10001, 100, 1), 100);
        Replen x = Planners.learner(5000, 0, 100);
        for (int day = 0; day < 8; day++) {
            x.night();
        }
        checks.same("17 stays at the least", x.season(0, 0, 0), 100);
        checks.same("18 by the least", x.forecast(0, 0, 14), 500);
        for (int day = 8; day < 14; day++) {
            x.night();
        }
        Planners.day(x, 5);
        checks.same("17 leaves the least", x.season(0, 0, 0), 1000);
    }

    private static void seasonAtItsGreatest() {
        checks.same("17 4999", seasonBehindDay(19803, 100, 99), 4999);
        checks.same("17 5000", seasonBehindDay(19800, 100, 99), 5000);
        checks.same("17 5001", seasonBehindDay(19796, 100, 99), 5000);
        checks.same("17 99000", seasonBehindDay(1000, 100, 99), 5000);
        Replen x = Planners.learner(1000, 0, 100);
        for (int day = 0; day < 15; day++) {
            Planners.day(x, day < 14 ? 9 : 2);
        }
        checks.same("17 stays at the greatest", x.season(0, 0, 1), 5000);
        checks.same("18 by the greatest", x.forecast(0, 0, 15), 5000);
        checks.same("17 leaves the greatest", x.season(0, 0, 0), 2000);
    }

    private static void levelOfNothing() {
        Replen x = Planners.learner(0, 20, 10);
        x.night();
        checks.same("15 stays 0", x.level(0, 0), 0);
        checks.same("16 stays 0", x.levelByDays(0, 0), 0);
        checks.same("17 stays", x.season(0, 0, 0), 1000);
        checks.same("18 0", x.forecast(0, 0, 7), 0);
        checks.same("19 still counts", x.errors(0, 0, 0), 1);
        Replen y = Planners.learner(0, 0, 100);
        Planners.day(y, 9);
        checks.same("15 0 at a rate of 0", y.level(0, 0), 0);
        checks.same("16 0 at a rate of 0", y.levelByDays(0, 0), 0);
        checks.same("17 stays with demand", y.season(0, 0, 0), 1000);
        checks.same("19 still counts with demand", y.errors(0, 0, 9), 1);
    }

    private static void levelThatBecomesNothing() {
        Replen x = Planners.learner(1, 20, 10);
        x.night();
        checks.same("15 1 less 0.2", x.level(0, 0), 0);
        checks.same("17 stays", x.season(0, 0, 0), 1000);
        Replen y = Planners.learner(2, 20, 10);
        y.night();
        checks.same("15 2 less 0.4", y.level(0, 0), 1);
        checks.same("17 learns at 1", y.season(0, 0, 0), 900);
        Replen z = Planners.learner(99999, 100, 100);
        z.night();
        checks.same("15 all at once", z.level(0, 0), 0);
        checks.same("16 all at once", z.levelByDays(0, 0), 0);
        checks.same("17 stays then", z.season(0, 0, 0), 1000);
    }

    private static void levelOutOfNothing() {
        Replen x = Planners.learner(0, 20, 10);
        Planners.day(x, 1);
        checks.same("15 20 percent of 1000", x.level(0, 0), 200);
        checks.same("16 20 percent of 1000", x.levelByDays(0, 0), 200);
        checks.same("17 10 percent of 4000", x.season(0, 0, 0), 1400);
    }

    /** Each of these, reckoned in int, would go round. */
    private static void nothingGoesRound() {
        checks.same("17 30000000 times 100", seasonBehindDay(1, 100, 30), 5000);
        checks.same("17 30000000 times 72", seasonBehindDay(1, 72, 30), 5000);
        checks.same("17 999000000 times 3", seasonBehindDay(1, 3, 999), 5000);
        Replen x = Planners.learner(1, 0, 100);
        Planners.day(x, 0);
        Planners.day(x, 1);
        x.setRates(0, 0);
        for (int day = 2; day < 7; day++) {
            x.night();
        }
        x.setRates(100, 100);
        Planners.day(x, 999);
        checks.same("15 999000000 by 100", x.level(0, 0), 9990000);
        checks.same("16 999000000 by 100", x.levelByDays(0, 0), 9990000);
        checks.same("18 9990000 times 5000", x.forecast(0, 0, 8), 49950000);
        checks.same("25 49950 and 9990 and 20", x.need(0, 0), 59960);
        x.setRates(100, 0);
        Planners.day(x, 0);
        checks.same("15 all of it at once", x.level(0, 0), 0);
    }

    private static Replen withErrors(int... errors) {
        Replen x = Planners.learner(0, 0, 0);
        for (int error : errors) {
            Planners.day(x, error);
        }
        return x;
    }

    private static int safetyAt(Replen x, int percent) {
        x.setService(percent);
        return x.safety(0, 0);
    }

    private static void safetyOfNoError() {
        Replen x = Planners.oneLine(1, 1, 0, 0, 5000);
        checks.same("20 none counted", x.safety(0, 0), 0);
        checks.same("20 none counted, 100", safetyAt(x, 100), 0);
        checks.same("20 none counted, 1", safetyAt(x, 1), 0);
        checks.same("25 none counted", x.need(0, 0), 10);
        Planners.dayOfPromotion(x);
        checks.same("20 none counted by a promotion", safetyAt(x, 100), 0);
    }

    private static void safetyByService() {
        Replen one = withErrors(5);
        checks.same("20 one error, 1", safetyAt(one, 1), 5);
        checks.same("20 one error, 100", safetyAt(one, 100), 5);
        Replen three = withErrors(5, 0, 20);
        checks.same("20 33.3 for 1", safetyAt(three, 1), 0);
        checks.same("20 33.3 for 33", safetyAt(three, 33), 0);
        checks.same("20 33.3 for 34", safetyAt(three, 34), 5);
        checks.same("20 66.7 for 66", safetyAt(three, 66), 5);
        checks.same("20 66.7 for 67", safetyAt(three, 67), 20);
        checks.same("20 100 for 100", safetyAt(three, 100), 20);
        Replen ten = withErrors(0, 0, 0, 7, 0, 0, 0, 0, 0, 0);
        checks.same("20 just 90, as at first", ten.safety(0, 0), 0);
        checks.same("20 90 for 91", safetyAt(ten, 91), 7);
    }

    private static void safetyJustShortOfService() {
        int[] errors = new int[101];
        errors[50] = 3;
        Replen x = withErrors(errors);
        checks.same("20 99.01 for 99", safetyAt(x, 99), 0);
        checks.same("20 99.01 for 100", safetyAt(x, 100), 3);
        int[] others = new int[100];
        for (int i = 1; i < others.length; i++) {
            others[i] = 4;
        }
        Replen y = withErrors(others);
        checks.same("20 just 1", safetyAt(y, 1), 0);
        checks.same("20 1 for 2", safetyAt(y, 2), 4);
    }

    private static void safetyAtItsGreatest() {
        Replen x = withErrors(999, 21, 20);
        checks.same("20 1 of errors above 20", safetyAt(x, 1), 20);
        checks.same("20 100 of errors above 20", safetyAt(x, 100), 20);
        checks.same("20 19 is less", safetyAt(withErrors(19), 100), 19);
    }

    private static void levelByDaysOfNoDay() {
        Replen x = Planners.learner(99999, 100, 100);
        checks.same("16 the greatest at first", x.levelByDays(0, 0), 99999);
        Planners.bring(x, 0, 0, 5);
        checks.same("16 today isn't learned", x.levelByDays(0, 0), 99999);
        x.carry(x.addShop(1), 0, 0, 0);
        checks.same("16 the least at first", x.levelByDays(1, 0), 0);
        checks.same("16 the other line stays", x.levelByDays(0, 0), 99999);
        Planners.dayOfPromotion(x);
        checks.same("16 a promotion alone", x.levelByDays(0, 0), 99999);
    }

    /** The rates of a day are those at its night; later ones change nothing behind it. */
    private static void levelByDaysOfRates() {
        Replen x = Planners.learner(5000, 100, 0);
        x.setRates(0, 0);
        x.setRates(20, 0);
        x.night();
        checks.same("15 the last rates of the day", x.level(0, 0), 4000);
        checks.same("16 the last rates of the day", x.levelByDays(0, 0), 4000);
        x.setRates(100, 100);
        checks.same("15 no later rates", x.level(0, 0), 4000);
        checks.same("16 no later rates", x.levelByDays(0, 0), 4000);
        Planners.day(x, 7);
        checks.same("16 a day later", x.levelByDays(0, 0), 7000);
    }
}
