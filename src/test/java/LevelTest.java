/** Promises 22 to 25: the clock, the levels, their rates and forecasts. */
public final class LevelTest {
    private static final int BAD_ARGUMENT = ParkingTariff.BAD_ARGUMENT;
    private static final int FULL = ParkingTariff.FULL;

    public static void main(String[] args) {
        advance();
        endOfTheClock();
        setCapacity();
        level();
        fullHours();
        ratesOfAllLevels();
        greatRates();
        smallestRates();
        scores();
        forecast();
        Checks.end();
    }

    private static void advance() {
        ParkingTariff park = new ParkingTariff();
        for (int wrong : new int[] {0, -1, 3001, Integer.MIN_VALUE, Integer.MAX_VALUE}) {
            Checks.due("advance(" + wrong + ")", park.advance(wrong), BAD_ARGUMENT);
        }
        Checks.due("the clock stands", park.count(0), 0);
        Checks.due("advance(1)", park.advance(1), 1);
        Checks.due("advance(3000)", park.advance(3000), 3001);
        Checks.due("the clock", park.count(0), 3001);
    }

    private static void endOfTheClock() {
        ParkingTariff park = new ParkingTariff();
        Checks.moveTo(park, 99000);
        Checks.due("above the end", park.advance(1000), FULL);
        Checks.due("a wrong one is told first", park.advance(3001), BAD_ARGUMENT);
        Checks.due("the clock stands", park.count(0), 99000);
        Checks.due("the end", park.advance(999), 99999);
        Checks.due("no further", park.advance(1), FULL);
        Checks.due("a car still enters", park.enter(0), 0);
        Checks.due("and leaves", park.leave(0), 0);
    }

    private static void setCapacity() {
        ParkingTariff park = new ParkingTariff();
        for (int wrong : new int[] {-1, 4, Integer.MIN_VALUE, Integer.MAX_VALUE}) {
            Checks.due("level " + wrong, park.setCapacity(wrong, 1), BAD_ARGUMENT);
        }
        Checks.due("capacity -1", park.setCapacity(0, -1), BAD_ARGUMENT);
        Checks.due("capacity 41", park.setCapacity(0, 41), BAD_ARGUMENT);
        Checks.due("the previous one", park.setCapacity(0, 40), 10);
        Checks.due("the previous one", park.setCapacity(0, 0), 40);
        Checks.due("the previous one", park.setCapacity(0, 10), 0);
        Checks.due("now", park.level(0, 0), 10);
        Checks.due("another level", park.level(1, 0), 10);
        park.enter(0);
        park.setCapacity(1, 0);
        park.setCapacity(2, 0);
        park.setCapacity(3, 0);
        park.enter(0);
        Checks.due("two cars", park.level(0, 1), 2);
        Checks.due("more cars than places", park.setCapacity(0, 1), FULL);
        Checks.due("a wrong one is told first", park.setCapacity(0, 41), BAD_ARGUMENT);
        Checks.due("nothing changed", park.level(0, 0), 10);
        Checks.due("as many cars as places", park.setCapacity(0, 2), 10);
        Checks.due("no free place", park.enter(0), FULL);
    }

    private static void level() {
        ParkingTariff park = new ParkingTariff();
        for (int wrong : new int[] {-1, 4, Integer.MIN_VALUE, Integer.MAX_VALUE}) {
            Checks.due("level " + wrong, park.level(wrong, 0), BAD_ARGUMENT);
        }
        Checks.due("what -1", park.level(0, -1), BAD_ARGUMENT);
        Checks.due("what 6", park.level(0, 6), BAD_ARGUMENT);
        for (int i = 0; i < 6; i++) {
            park.enter(0);
        }
        Checks.due("cars on level 0", park.level(0, 1), 2);
        Checks.due("cars on level 3", park.level(3, 1), 1);
        park.leave(0);
        park.leave(4);
        park.leave(3);
        Checks.due("cars on level 0", park.level(0, 1), 0);
        Checks.due("left level 0", park.level(0, 4), 2);
        Checks.due("left level 1", park.level(1, 4), 0);
        Checks.due("left level 3", park.level(3, 4), 1);
        Checks.due("entered level 0", park.level(0, 5), 2);
        Checks.due("entered level 3", park.level(3, 5), 1);
        park.enter(0);
        Checks.due("entered level 0", park.level(0, 5), 3);
        Checks.due("capacity", park.level(0, 0), 10);
    }

    private static void rate(String what, ParkingTariff park, int level, float want) {
        Checks.due(what, park.level(level, 2), Float.floatToIntBits(want));
    }

    private static void score(String what, ParkingTariff park, int level, float want) {
        Checks.due(what, park.level(level, 3), Float.floatToIntBits(want));
    }

    private static void fullHours() {
        ParkingTariff park = new ParkingTariff();
        for (int i = 0; i < 3; i++) {
            park.leave(park.enter(0));
        }
        Checks.due("all on level 0", park.level(0, 4), 3);
        park.advance(59);
        rate("before the hour", park, 0, 0.0f);
        Checks.due("left since the last full hour", park.level(0, 4), 3);
        park.advance(1);
        rate("at the hour", park, 0, 0.75f);
        Checks.due("none since then", park.level(0, 4), 0);
        park.leave(park.enter(0));
        park.leave(park.enter(0));
        park.advance(120);
        rate("two hours later", park, 0, (0.75f * 0.75f + 2 * 0.25f) * 0.75f);
        park.advance(59);
        rate("not yet", park, 0, (0.75f * 0.75f + 2 * 0.25f) * 0.75f);
        park.advance(3000);
        float rate = (0.75f * 0.75f + 2 * 0.25f) * 0.75f;
        for (int hour = 0; hour < 50; hour++) {
            rate = rate * 0.75f + 0 * 0.25f;
        }
        rate("50 hours later", park, 0, rate);
        Checks.due("the clock", park.count(0), 3239);
        park.advance(1);
        rate("one more hour", park, 0, rate * 0.75f);
    }

    private static void ratesOfAllLevels() {
        ParkingTariff park = new ParkingTariff();
        park.setCapacity(3, 40);
        park.enter(0);
        park.enter(0);
        park.enter(0);
        park.leave(1);
        park.setCapacity(1, 0);
        park.advance(60);
        rate("level 0", park, 0, 0.0f);
        rate("level 1, with the capacity 0", park, 1, 0.25f);
        score("its score", park, 1, 0.0f);
        park.advance(60);
        rate("level 1 again", park, 1, 0.1875f);
        park.setCapacity(1, 3);
        score("its new score", park, 1, (3 + 0.1875f * 0.5f) / 3);
    }

    private static void greatRates() {
        int[] hours = {8, 30, 0, 61, 2};
        ParkingTariff park = new ParkingTariff();
        float rate = 0.0f;
        for (int exits : hours) {
            for (int i = 0; i < exits; i++) {
                park.leave(park.enter(0));
            }
            Checks.due("left", park.level(0, 4), exits);
            park.advance(60);
            rate = rate * 0.75f + exits * 0.25f;
            rate(exits + " exits", park, 0, rate);
            park.setCapacity(0, 1);
            score(exits + " exits, one place", park, 0, 1 + rate * 0.5f);
            park.setCapacity(0, 40);
            score(exits + " exits, 40 places", park, 0, (40 + rate * 0.5f) / 40);
        }
    }

    /** Rates shrink to floats below the normal ones, and stay there. */
    private static void smallestRates() {
        ParkingTariff park = new ParkingTariff();
        park.leave(park.enter(0));
        park.advance(60);
        float rate = 0.25f;
        rate("the first hour", park, 0, rate);
        for (int hour = 2; hour <= 360; hour++) {
            park.advance(60);
            rate = rate * 0.75f + 0 * 0.25f;
            rate("hour " + hour, park, 0, rate);
        }
        Checks.due("it is below the normal ones", rate > 0.0f && rate < Float.MIN_NORMAL ? 1 : 0, 1);
        score("its score", park, 0, 1.0f);
    }

    private static void scores() {
        ParkingTariff park = new ParkingTariff();
        for (int capacity = 1; capacity <= 40; capacity++) {
            park.setCapacity(2, capacity);
            score("empty", park, 2, 1.0f);
        }
        for (int i = 0; i < 7; i++) {
            park.enter(0);
            park.leave(i);
        }
        park.advance(60);
        float rate = 7 * 0.25f;
        Checks.due("all of them left level 0", park.level(0, 5), 7);
        for (int i = 1; i <= 9; i++) {
            park.enter(0);
        }
        int cars = park.level(0, 1);
        for (int capacity = cars; capacity <= 40; capacity++) {
            park.setCapacity(0, capacity);
            score("capacity " + capacity, park, 0, (capacity - cars + rate * 0.5f) / capacity);
        }
    }

    private static void forecast() {
        ParkingTariff park = new ParkingTariff();
        for (int wrong : new int[] {-1, 4, Integer.MIN_VALUE, Integer.MAX_VALUE}) {
            Checks.due("level " + wrong, park.forecast(wrong, 0), BAD_ARGUMENT);
        }
        Checks.due("minutes -1", park.forecast(0, -1), BAD_ARGUMENT);
        Checks.due("minutes 601", park.forecast(0, 601), BAD_ARGUMENT);
        park.setCapacity(1, 0);
        park.setCapacity(2, 0);
        park.setCapacity(3, 0);
        for (int i = 0; i < 10; i++) {
            park.enter(0);
        }
        Checks.due("no rate", park.forecast(0, 600), 10);
        for (int i = 0; i < 5; i++) {
            park.leave(i);
        }
        park.advance(60);
        float rate = 5 * 0.25f;
        for (int minutes = 0; minutes <= 600; minutes++) {
            int want = (int) (5 - rate * minutes / 60.0f);
            Checks.due("forecast(0, " + minutes + ")", park.forecast(0, minutes), Math.max(0, want));
        }
        Checks.due("now", park.forecast(0, 0), 5);
        Checks.due("rounded to 0", park.forecast(0, 1), 4);
        Checks.due("never below 0", park.forecast(0, 600), 0);
        Checks.due("no cars", park.forecast(1, 600), 0);
    }
}
