/** What the document says of the clock, the levels, their rates and their scores: promises 22 to 25. */
final class LevelSentences {
    private static final int BAD_ARGUMENT = ParkingTariff.BAD_ARGUMENT;
    private static final int FULL = ParkingTariff.FULL;
    private static final int LAST = 99999;
    private static final int[] NO_LEVELS = {-1, 4, Integer.MIN_VALUE, Integer.MAX_VALUE};

    private LevelSentences() {
    }

    static void run() {
        clock();
        levels();
        fullHours();
        scores();
        advance();
        setCapacity();
        setCapacityFaults();
        level();
        newObject();
        forecast();
        forecastFaults();
    }

    /** A park at minute 0 with so many exits from one level, which alone has places. */
    private static ParkingTariff withExits(int level, int exits) {
        ParkingTariff park = new ParkingTariff();
        Parks.onlyLevel(park, level, 40);
        Parks.enterAndLeave(park, exits);
        return park;
    }

    private static float afterIdleHours(float rate, int hours) {
        float changed = rate;
        for (int i = 0; i < hours; i++) {
            changed = changed * 0.75f + 0 * 0.25f;
        }
        return changed;
    }

    private static void clock() {
        Section section = Section.of("Description");
        section.holds("The clock is at a minute, at first 0,", () -> {
            Checks.due("at first", new ParkingTariff().count(0), 0);
            ParkingTariff park = new ParkingTariff();
            Checks.due("one minute later", park.advance(1), 1);
            Checks.due("its count", park.count(0), 1);
        });
        section.holds("and at most 99999;", () -> {
            ParkingTariff park = Parks.atMinute(LAST - 1);
            Checks.due("one before the last", park.count(0), LAST - 1);
            Checks.due("behind the last", park.advance(2), FULL);
            Checks.due("the last", park.advance(1), LAST);
            Checks.due("behind the last", park.advance(1), FULL);
            Checks.due("behind the last", park.advance(3000), FULL);
            Checks.due("the last stays", park.count(0), LAST);
            Checks.due("a car still enters", park.enter(0), 0);
            Checks.due("and leaves", park.leave(0), 0);
        });
        section.tells("The class is not thread-safe.");
        section.holds("Operations on floats are those of Java's type float, in the order in which they are written.", () -> {
            ParkingTariff park = withExits(0, 5);
            for (int i = 0; i < 4; i++) {
                park.enter(0);
            }
            park.advance(180);
            Checks.rate("a float's rate", park, 0, 0.703125f);
            Checks.due("the rate is multiplied before it is divided", park.forecast(0, 256), 1);
            ParkingTariff other = withExits(0, 1);
            other.advance(9 * 60);
            other.setCapacity(0, 34);
            Checks.score("a score that is another one by doubles", other, 0, (34 + afterIdleHours(0.25f, 8) * 0.5f) / 34);
            ParkingTariff third = withExits(0, 37);
            third.advance(12 * 60);
            Parks.enterAndLeave(third, 3);
            third.advance(60);
            Checks.rate("a rate that is another one by doubles", third, 0,
                    afterIdleHours(37 * 0.25f, 11) * 0.75f + 3 * 0.25f);
        });
    }

    private static void levels() {
        Section section = Section.of("Description");
        section.holds("There are 4 levels, numbered from 0,", () -> {
            ParkingTariff park = new ParkingTariff();
            for (int level = 0; level < 4; level++) {
                Checks.due("level " + level, park.setCapacity(level, level + 20), 10);
            }
            for (int level = 0; level < 4; level++) {
                Checks.due("level " + level, park.level(level, 0), level + 20);
            }
            Checks.due("level -1", park.level(-1, 0), BAD_ARGUMENT);
            Checks.due("level 4", park.level(4, 0), BAD_ARGUMENT);
        });
        section.holds("each with a capacity from 0 to 40, at first 10,", () -> {
            ParkingTariff park = new ParkingTariff();
            for (int level = 0; level < 4; level++) {
                Checks.due("at first", park.level(level, 0), 10);
                Checks.due("the least", park.setCapacity(level, 0), 10);
                Checks.due("the greatest", park.setCapacity(level, 40), 0);
                Checks.due("one more", park.setCapacity(level, 41), BAD_ARGUMENT);
                Checks.due("one less than the least", park.setCapacity(level, -1), BAD_ARGUMENT);
                Checks.due("the greatest stays", park.level(level, 0), 40);
            }
            ParkingTariff other = new ParkingTariff();
            Parks.onlyLevel(other, 0, 10);
            for (int car = 0; car < 10; car++) {
                Checks.due("a car", other.enter(0), car);
            }
            Checks.due("no place for another", other.enter(0), FULL);
        });
        section.holds("and a rate, which is a float, at first 0.", () -> {
            for (int level = 0; level < 4; level++) {
                Checks.rate("at first", new ParkingTariff(), level, 0.0f);
                ParkingTariff park = withExits(level, 1);
                park.advance(60);
                Checks.rate("after an exit", park, level, 0.25f);
            }
        });
    }

    private static void fullHours() {
        Section section = Section.of("Description");
        section.holds("The rates of all levels, also of those with the capacity 0,"
                + " are changed at each full hour that the clock reaches:", () -> {
            ParkingTariff park = withExits(0, 4);
            park.advance(59);
            Checks.rate("a minute before the hour", park, 0, 0.0f);
            park.advance(1);
            Checks.rate("at the hour", park, 0, 1.0f);
            park.advance(59);
            Checks.rate("a minute before the next hour", park, 0, 1.0f);
            park.advance(2);
            Checks.rate("a minute behind it", park, 0, 0.75f);
            park.advance(59 + 60 + 1);
            Checks.rate("over two hours", park, 0, 0.75f * 0.75f * 0.75f);
            park.advance(3000);
            Checks.rate("over fifty hours", park, 0, afterIdleHours(1.0f, 53));
            allLevels();
        });
        section.holds("the rate becomes rate * 0.75f + exits * 0.25f,", () -> {
            int[] exits = {8, 30, 0, 61, 2};
            ParkingTariff park = new ParkingTariff();
            Parks.onlyLevel(park, 1, 40);
            float rate = 0.0f;
            for (int hour = 0; hour < exits.length; hour++) {
                Parks.enterAndLeave(park, exits[hour]);
                park.advance(60);
                rate = rate * 0.75f + exits[hour] * 0.25f;
                Checks.rate("hour " + (hour + 1), park, 1, rate);
            }
            ParkingTariff many = withExits(3, 240);
            many.advance(60);
            Checks.rate("240 exits", many, 3, 60.0f);
        });
        section.holds("where exits is the number of cars that left the level since the last full hour.", () -> {
            ParkingTariff park = withExits(2, 3);
            Checks.due("before the hour", park.level(2, 4), 3);
            park.advance(59);
            Parks.enterAndLeave(park, 2);
            Checks.due("in the same hour", park.level(2, 4), 5);
            park.advance(1);
            Checks.due("at the hour", park.level(2, 4), 0);
            Checks.rate("at the hour", park, 2, 5 * 0.25f);
            Parks.enterAndLeave(park, 1);
            Checks.due("at the minute of the hour, behind it", park.level(2, 4), 1);
            park.advance(120);
            Checks.rate("they count once", park, 2, (5 * 0.25f * 0.75f + 1 * 0.25f) * 0.75f);
        });
    }

    private static void allLevels() {
        ParkingTariff park = new ParkingTariff();
        for (int car = 0; car < 4; car++) {
            park.enter(0);
        }
        for (int car = 0; car < 4; car++) {
            park.leave(car);
            park.setCapacity(car, 0);
        }
        park.advance(60);
        for (int level = 0; level < 4; level++) {
            Checks.rate("with the capacity 0", park, level, 0.25f);
        }
        park.advance(60);
        for (int level = 0; level < 4; level++) {
            Checks.rate("an hour later", park, level, 0.25f * 0.75f);
        }
    }

    private static void scores() {
        Section section = Section.of("Description");
        section.holds("The score of a level with a capacity above 0 is (free + rate * 0.5f) / capacity,", () -> {
            for (int exits : new int[] {0, 1, 7, 40}) {
                ParkingTariff park = withExits(1, exits);
                park.advance(60);
                for (int capacity = 1; capacity <= 40; capacity++) {
                    park.setCapacity(1, capacity);
                    Checks.score("capacity " + capacity, park, 1, (capacity + exits * 0.25f * 0.5f) / capacity);
                }
            }
        });
        section.holds("where free is the number of its free places.", () -> {
            ParkingTariff park = withExits(3, 3);
            park.advance(60);
            for (int cars = 0; cars <= 40; cars++) {
                Checks.score(cars + " cars", park, 3, (40 - cars + 3 * 0.25f * 0.5f) / 40);
                park.enter(0);
            }
            Checks.due("one leaves", park.leave(3), 0);
            Checks.score("one has left", park, 3, (1 + 3 * 0.25f * 0.5f) / 40);
        });
    }

    private static void advance() {
        Section section = Section.of("Promise 22: advance");
        section.holds("Moves the clock.", () -> {
            ParkingTariff park = new ParkingTariff();
            park.advance(100);
            Checks.due("the clock", park.count(0), 100);
            Checks.due("a car's entry", park.ticket(park.enter(0), 1), 100);
            park.advance(61);
            Checks.due("what it pays", park.pay(0), 200);
        });
        section.holds("`minutes`: the number of minutes, 1 to 3000", () -> {
            ParkingTariff park = new ParkingTariff();
            Checks.due("the least", park.advance(1), 1);
            Checks.due("the greatest", park.advance(3000), 3001);
        });
        section.holds("Returns the present minute;", () -> {
            ParkingTariff park = new ParkingTariff();
            Checks.due("7", park.advance(7), 7);
            Checks.due("and 1440", park.advance(1440), 1447);
            Checks.due("and 60", park.advance(60), 1507);
        });
        section.holds("BAD_ARGUMENT if minutes is out of range;", () -> {
            ParkingTariff park = Parks.atMinute(5000);
            for (int minutes : new int[] {0, -1, -60, 3001, Integer.MIN_VALUE, Integer.MAX_VALUE}) {
                Checks.due("advance(" + minutes + ")", park.advance(minutes), BAD_ARGUMENT);
            }
            Checks.due("the clock stands", park.count(0), 5000);
        });
        section.holds("FULL if the clock would be above 99999.", () -> {
            ParkingTariff park = withExits(0, 4);
            Parks.moveTo(park, 97000);
            int rate = park.level(0, 2);
            Parks.enterAndLeave(park, 1);
            Checks.due("by one", park.advance(3000), FULL);
            Checks.due("the clock stands", park.count(0), 97000);
            Checks.due("no rate is changed", park.level(0, 2), rate);
            Checks.due("the exits are kept", park.level(0, 4), 1);
            Checks.due("just not", park.advance(2999), LAST);
            Checks.due("by one, from there", park.advance(1), FULL);
        });
    }

    private static void setCapacity() {
        Section section = Section.of("Promise 23: setCapacity");
        section.holds("Sets the capacity of a level.", () -> {
            ParkingTariff park = new ParkingTariff();
            park.setCapacity(2, 3);
            Checks.due("of level 2", park.level(2, 0), 3);
            Checks.due("of level 1", park.level(1, 0), 10);
            Checks.due("of level 3", park.level(3, 0), 10);
        });
        section.holds("`level`: the level, 0 to 3", () -> {
            ParkingTariff park = new ParkingTariff();
            Checks.due("level 0", park.setCapacity(0, 1), 10);
            Checks.due("level 3", park.setCapacity(3, 4), 10);
            Checks.due("of level 0", park.level(0, 0), 1);
            Checks.due("of level 3", park.level(3, 0), 4);
        });
        section.holds("`capacity`: the capacity, 0 to 40", () -> {
            ParkingTariff park = new ParkingTariff();
            park.setCapacity(1, 0);
            Checks.due("the least", park.level(1, 0), 0);
            park.setCapacity(1, 40);
            Checks.due("the greatest", park.level(1, 0), 40);
        });
        section.holds("Returns the previous capacity;", () -> {
            ParkingTariff park = new ParkingTariff();
            Checks.due("at first", park.setCapacity(1, 40), 10);
            Checks.due("then", park.setCapacity(1, 0), 40);
            Checks.due("then", park.setCapacity(1, 0), 0);
            Checks.due("then", park.setCapacity(1, 7), 0);
        });
    }

    private static void setCapacityFaults() {
        Section section = Section.of("Promise 23: setCapacity");
        section.holds("BAD_ARGUMENT if an argument is out of range;", () -> {
            ParkingTariff park = new ParkingTariff();
            for (int level : NO_LEVELS) {
                Checks.due("setCapacity(" + level + ", 5)", park.setCapacity(level, 5), BAD_ARGUMENT);
            }
            for (int capacity : new int[] {-1, 41, Integer.MIN_VALUE, Integer.MAX_VALUE}) {
                Checks.due("setCapacity(0, " + capacity + ")", park.setCapacity(0, capacity), BAD_ARGUMENT);
            }
            Checks.due("it is as it was", park.level(0, 0), 10);
        });
        section.holds("FULL if more cars are on the level.", () -> {
            ParkingTariff park = new ParkingTariff();
            Parks.onlyLevel(park, 2, 5);
            park.enter(0);
            park.enter(0);
            Checks.due("fewer places than cars", park.setCapacity(2, 1), FULL);
            Checks.due("no places", park.setCapacity(2, 0), FULL);
            Checks.due("it is as it was", park.level(2, 0), 5);
            Checks.due("as many places as cars", park.setCapacity(2, 2), 5);
            Checks.due("another level", park.setCapacity(1, 1), 0);
            park.leave(0);
            Checks.due("when a car has left", park.setCapacity(2, 1), 2);
            park.leave(1);
            Checks.due("when all have left", park.setCapacity(2, 0), 1);
        });
    }

    private static void level() {
        Section section = Section.of("Promise 24: level");
        section.holds("Returns a number about a level.", () -> {
            ParkingTariff park = new ParkingTariff();
            for (int car = 0; car < 5; car++) {
                park.enter(0);
            }
            Checks.due("cars on level 0", park.level(0, 1), 2);
            Checks.due("cars on level 3", park.level(3, 1), 1);
        });
        section.tells("`level`: the level");
        section.holds("`what`: 0 for the capacity, 1 for the cars on it, 2 for the bits of its rate as by Float.floatToIntBits,"
                + " 3 for the bits of its score likewise, 0 if the capacity is 0,"
                + " 4 for the cars that left it since the last full hour, 5 for all cars that entered it",
                LevelSentences::numbersOfALevel);
        section.holds("Returns the number;", () -> {
            ParkingTariff park = withExits(0, 1);
            park.setCapacity(0, 10);
            float rate = 0.25f;
            park.advance(60);
            for (int hours = 0; hours < 250; hours += 50) {
                Checks.rate(hours + " hours later", park, 0, rate);
                rate = afterIdleHours(rate, 50);
                park.advance(3000);
            }
            for (int hour = 250; hour < 350; hour++) {
                Checks.rate(hour + " hours later", park, 0, rate);
                rate = afterIdleHours(rate, 1);
                park.advance(60);
            }
            Checks.due("it is below the normal floats", rate > 0.0f && rate < Float.MIN_NORMAL ? 1 : 0, 1);
            Checks.score("its score", park, 0, 1.0f);
        });
        section.holds("BAD_ARGUMENT if there is no such level or what is not from 0 to 5.", () -> {
            ParkingTariff park = new ParkingTariff();
            for (int level : NO_LEVELS) {
                for (int what = 0; what < 6; what++) {
                    Checks.due("level(" + level + ", " + what + ")", park.level(level, what), BAD_ARGUMENT);
                }
            }
            for (int what : new int[] {-1, 6, Integer.MIN_VALUE, Integer.MAX_VALUE}) {
                Checks.due("level(0, " + what + ")", park.level(0, what), BAD_ARGUMENT);
            }
        });
    }

    private static void numbersOfALevel() {
        ParkingTariff park = withExits(1, 5);
        park.advance(60);
        park.setCapacity(1, 8);
        Parks.enterAndLeave(park, 2);
        park.enter(0);
        Checks.due("capacity", park.level(1, 0), 8);
        Checks.due("cars", park.level(1, 1), 1);
        Checks.due("bits of its rate", park.level(1, 2), Float.floatToIntBits(1.25f));
        Checks.due("bits of its score", park.level(1, 3), Float.floatToIntBits((7 + 1.25f * 0.5f) / 8));
        Checks.due("left since the full hour", park.level(1, 4), 2);
        Checks.due("entered", park.level(1, 5), 8);
        park.leave(7);
        park.setCapacity(1, 0);
        Checks.due("bits of a score without places", park.level(1, 3), 0);
        Checks.due("bits of a rate without places", park.level(1, 2), Float.floatToIntBits(1.25f));
        Checks.due("left, without places", park.level(1, 4), 3);
        Checks.due("entered, without places", park.level(1, 5), 8);
        park.setCapacity(1, 1);
        park.enter(0);
        Checks.due("bits of a full level's score", park.level(1, 3), Float.floatToIntBits(1.25f * 0.5f));
        ParkingTariff full = new ParkingTariff();
        Parks.onlyLevel(full, 2, 1);
        full.enter(0);
        Checks.due("bits of a full level's score without a rate", full.level(2, 3), 0);
    }

    private static void newObject() {
        Section.of("Promise 1: A new object").holds("Creates a car park at minute 0 without cars and vouchers.", () -> {
            ParkingTariff park = new ParkingTariff();
            for (int what = 0; what < 12; what++) {
                Checks.due("count(" + what + ")", park.count(what), 0);
            }
            for (int level = 0; level < 4; level++) {
                Checks.due("cars on it", park.level(level, 1), 0);
                Checks.due("cars that left it", park.level(level, 4), 0);
                Checks.due("cars that entered it", park.level(level, 5), 0);
                Checks.due("cars expected on it", park.forecast(level, 600), 0);
            }
            Checks.due("no ticket", park.ticket(0, 0), ParkingTariff.NONE);
            Checks.due("no voucher", park.voucher(0, 0), ParkingTariff.NONE);
            Checks.due("no snapshot", park.restore(), ParkingTariff.NONE);
            Scenes.twoObjectsShareNothing();
        });
    }

    private static void forecast() {
        Section section = Section.of("Promise 25: forecast");
        section.holds("Returns how many cars are expected on a level after some minutes without cars that enter:", () -> {
            ParkingTariff park = new ParkingTariff();
            for (int car = 0; car < 6; car++) {
                park.enter(0);
            }
            Checks.due("cars on level 0", park.forecast(0, 600), 2);
            Checks.due("cars on level 3", park.forecast(3, 600), 1);
        });
        section.holds("the number of cars minus rate * minutes / 60.0f, as a float, cast to int,", () -> {
            ParkingTariff park = withExits(2, 5);
            for (int car = 0; car < 12; car++) {
                park.enter(0);
            }
            park.advance(60);
            for (int minutes = 0; minutes <= 600; minutes += 2) {
                Checks.due("forecast(2, " + minutes + ")", park.forecast(2, minutes),
                        Math.max(0, (int) (12 - 1.25f * minutes / 60.0f)));
            }
            Checks.due("just a whole car less", park.forecast(2, 48), 11);
            Checks.due("less than a whole car", park.forecast(2, 47), 11);
            Checks.due("none yet", park.forecast(2, 0), 12);
            ParkingTariff small = withExits(0, 1);
            small.enter(0);
            Parks.moveTo(small, 100 * 60);
            Checks.due("a rate that is too small for a float of the cars", small.forecast(0, 600), 1);
        });
        section.holds("but at least 0.", () -> {
            ParkingTariff park = withExits(2, 40);
            park.enter(0);
            park.advance(60);
            Checks.due("just none left", park.forecast(2, 6), 0);
            Checks.due("fewer than none", park.forecast(2, 60), 0);
            Checks.due("far fewer than none", park.forecast(2, 600), 0);
            ParkingTariff empty = withExits(1, 4);
            empty.advance(60);
            Checks.due("no cars", empty.forecast(1, 120), 0);
        });
        section.tells("`level`: the level");
        section.holds("`minutes`: the minutes, 0 to 600", () -> {
            ParkingTariff park = withExits(0, 4);
            for (int car = 0; car < 12; car++) {
                park.enter(0);
            }
            park.advance(60);
            Checks.due("the least", park.forecast(0, 0), 12);
            Checks.due("the greatest", park.forecast(0, 600), 2);
        });
        section.holds("Returns the number;", () -> {
            ParkingTariff park = withExits(3, 4);
            for (int car = 0; car < 40; car++) {
                park.enter(0);
            }
            park.advance(60);
            Checks.due("40 cars", park.forecast(3, 0), 40);
            Checks.due("an hour later", park.forecast(3, 60), 39);
            Checks.due("they are still there", park.level(3, 1), 40);
        });
    }

    private static void forecastFaults() {
        Section section = Section.of("Promise 25: forecast");
        section.holds("BAD_ARGUMENT if there is no such level or minutes is out of range.", () -> {
            ParkingTariff park = new ParkingTariff();
            for (int level : NO_LEVELS) {
                Checks.due("forecast(" + level + ", 0)", park.forecast(level, 0), BAD_ARGUMENT);
            }
            for (int minutes : new int[] {-1, 601, Integer.MIN_VALUE, Integer.MAX_VALUE}) {
                Checks.due("forecast(0, " + minutes + ")", park.forecast(0, minutes), BAD_ARGUMENT);
            }
        });
    }
}
