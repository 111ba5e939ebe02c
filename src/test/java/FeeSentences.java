import java.util.Arrays;

/** What the document says of fees and units: promises 6 to 8. */
final class FeeSentences {
    private static final int BAD_ARGUMENT = ParkingTariff.BAD_ARGUMENT;
    private static final int LAST = 99999;
    private static final int[] NO_PLANS = {-1, 4, Integer.MIN_VALUE, Integer.MAX_VALUE};
    private static final int[][] NO_STAYS = {{-1, 0}, {-1, -1}, {1, 0}, {LAST, LAST - 1}, {0, LAST + 1}, {LAST + 1, LAST + 1},
        {5, -5}, {5, Integer.MIN_VALUE}, {Integer.MIN_VALUE, 5}, {5, Integer.MAX_VALUE}, {Integer.MAX_VALUE, 5}};

    private FeeSentences() {
    }

    static void run() {
        units();
        blocksAndDays();
        fee();
        unit();
        partsOfUnits();
        extend();
        extendFaults();
    }

    private static void units() {
        Section section = Section.of("Description");
        section.holds("A stay from a minute s to a minute e costs nothing by a plan if e - s is at most the free minutes.", () -> {
            ParkingTariff park = Parks.withPlan("free 30;band 0,7,20");
            Checks.due("no minute", park.fee(0, 100, 100), 0);
            Checks.due("as long as the free minutes", park.fee(0, 100, 130), 0);
            Checks.due("one minute longer", park.fee(0, 100, 131), 14);
            Parks.read(park, 0, "free 60;band 0,7,20");
            Checks.due("60 minutes", park.fee(0, 100, 160), 0);
            Checks.due("61 minutes", park.fee(0, 100, 161), 28);
            Parks.read(park, 0, "free 0;band 0,7,20");
            Checks.due("no free minutes, no minute", park.fee(0, 100, 100), 0);
            Checks.due("no free minutes, one minute", park.fee(0, 100, 101), 7);
        });
        section.holds("Otherwise it consists of units: the first one begins at s;", () -> {
            ParkingTariff park = Parks.withPlan("free 30;band 0,1,20;band 110,50,20");
            Checks.due("the price at s, not behind the free minutes", park.fee(0, 109, 140), 51);
            Checks.due("s in the other band", park.fee(0, 110, 141), 100);
            Checks.due("the first unit", park.unit(0, 109, 0, 0), 109);
        });
        section.holds("a unit that begins at a minute t has the price and the length of the band"
                + " that contains the minute of the day of t,", () -> {
            ParkingTariff park = Parks.withPlan("band 0,1,240;band 100,20,10;band 1430,300,60");
            Checks.due("the minute before a band", park.fee(0, 99, 100), 1);
            Checks.due("a band's beginning", park.fee(0, 100, 101), 20);
            Checks.due("a unit that goes on in the next band", park.fee(0, 99, 339), 1);
            Checks.due("the last minute of the day", park.fee(0, 1439, 1440), 300);
            Checks.due("a unit that goes on in the next day", park.fee(0, 1439, 1499), 300);
            Checks.due("the next day's band behind it", park.fee(0, 1439, 1500), 301);
            Checks.due("the last day", park.fee(0, 69 * 1440 + 99, 69 * 1440 + 340), 21);
        });
        section.holds("and the next one begins at its end;", () -> {
            ParkingTariff park = Parks.withPlan("band 0,1,7;band 10,20,11");
            Checks.due("the second unit", park.unit(0, 0, 1, 0), 7);
            Checks.due("the third unit", park.unit(0, 0, 2, 0), 14);
            Checks.due("the fourth unit", park.unit(0, 0, 3, 0), 25);
            Checks.due("a band begins within a unit", park.fee(0, 0, 14), 2);
        });
        section.holds("all units that begin before e are paid.", () -> {
            ParkingTariff park = Parks.withPlan("band 0,10,30");
            Checks.due("e is the first unit's beginning", park.fee(0, 5, 5), 0);
            Checks.due("one minute of it", park.fee(0, 5, 6), 10);
            Checks.due("e is its end", park.fee(0, 5, 35), 10);
            Checks.due("one minute of the second", park.fee(0, 5, 36), 20);
            Checks.due("e is the end of the second", park.fee(0, 5, 65), 20);
            Checks.due("the third", park.fee(0, 5, 66), 30);
        });
    }

    private static void blocksAndDays() {
        Section section = Section.of("Description");
        section.holds("By blocks, the units that begin in the same block are capped together,"
                + " where block i begins at s + 1440 * i;", () -> {
            ParkingTariff park = Parks.withPlan("cap 250;band 0,100,60");
            Checks.due("to the end of block 0, over midnight", park.fee(0, 1000, 2440), 250);
            Checks.due("the first minute of block 1", park.fee(0, 1000, 2441), 350);
            Checks.due("to the end of block 1", park.fee(0, 1000, 3880), 500);
            Checks.due("the first minute of block 2", park.fee(0, 1000, 3881), 600);
            Parks.read(park, 0, "cap 50;band 0,100,100");
            Checks.due("a unit that goes on in block 1", park.fee(0, 0, 1500), 50);
            Checks.due("the first one that begins there", park.fee(0, 0, 1501), 100);
        });
        section.holds("by days, those that begin on the same day.", () -> {
            ParkingTariff park = Parks.withPlan("days;cap 250;band 0,100,60");
            Checks.due("to midnight", park.fee(0, 1200, 1440), 250);
            Checks.due("the first minute of the next day", park.fee(0, 1200, 1441), 350);
            Checks.due("to the next midnight", park.fee(0, 1200, 2880), 500);
            Checks.due("the first minute behind it", park.fee(0, 1200, 2881), 600);
            Checks.due("a unit that goes on in the next day", park.fee(0, 1410, 1470), 100);
            Checks.due("the first one that begins there", park.fee(0, 1410, 1471), 200);
            Parks.read(park, 0, "days;cap 50;band 0,100,60");
            Checks.due("that unit and the day behind it", park.fee(0, 1410, 2000), 100);
        });
        section.holds("The fee is the sum over all blocks or days of the lesser of the sum of the prices and the cap.", () -> {
            ParkingTariff park = Parks.withPlan("cap 200;band 0,100,60");
            Checks.due("the sum is less", park.fee(0, 0, 60), 100);
            Checks.due("they are equal", park.fee(0, 0, 120), 200);
            Checks.due("the cap is less", park.fee(0, 0, 121), 200);
            Checks.due("a whole block and less than the cap", park.fee(0, 0, 1441), 300);
            Checks.due("a whole block and the cap", park.fee(0, 0, 1501), 400);
            Checks.due("70 blocks", park.fee(0, 0, LAST), 14000);
            Parks.read(park, 0, "days;cap 200;band 0,100,60");
            Checks.due("less than the cap, and the cap", park.fee(0, 1380, 2000), 300);
            Checks.due("70 days", park.fee(0, 1380, LAST), 13900);
        });
        Section.of("Description").holds("a day has 1440 minutes,", () -> {
            ParkingTariff park = Parks.withPlan("days;band 0,1,60");
            Checks.due("the last minute of day 0", park.unit(0, 1439, 0, 2), 0);
            Checks.due("the first minute of day 1", park.unit(0, 1440, 0, 2), 1);
            Checks.due("the last minute of day 1", park.unit(0, 2879, 0, 2), 1);
            Checks.due("the first minute of day 69", park.unit(0, 69 * 1440, 0, 2), 69);
            Checks.due("the last minute of all", park.unit(0, LAST, 0, 2), 69);
        });
        Section.of("Description").holds("and the minute of the day is the rest when the clock is divided by 1440.", () -> {
            ParkingTariff park = Parks.withPlan("band 0,1,60;band 1,2,60;band 1439,3,60");
            for (int day : new int[] {0, 1, 2, 35, 68}) {
                Checks.due("minute 0 of day " + day, park.unit(0, day * 1440, 0, 1), 0);
                Checks.due("minute 1 of day " + day, park.unit(0, day * 1440 + 1, 0, 1), 1);
                Checks.due("minute 1438 of day " + day, park.unit(0, day * 1440 + 1438, 0, 1), 1);
                Checks.due("minute 1439 of day " + day, park.unit(0, day * 1440 + 1439, 0, 1), 2);
            }
        });
    }

    private static void fee() {
        Section section = Section.of("Promise 6: fee");
        section.holds("Returns the fee of a stay without vouchers.", () -> {
            ParkingTariff park = Parks.withGiven(1, 100, 0, 999, 2, 999, 3, 0);
            Checks.due("vouchers", park.fee(0, 0, 61), 200);
        });
        section.tells("`plan`: the plan");
        section.holds("`from`: the minute at which it begins, 0 to 99999", () -> {
            ParkingTariff park = new ParkingTariff();
            Checks.due("from 0", park.fee(0, 0, 1), 100);
            Checks.due("from 99998", park.fee(0, LAST - 1, LAST), 100);
            Checks.due("from 99999", park.fee(0, LAST, LAST), 0);
        });
        section.holds("`to`: the minute at which it ends, from to 99999", () -> {
            ParkingTariff park = new ParkingTariff();
            Checks.due("to from", park.fee(0, 7, 7), 0);
            Checks.due("to one minute later", park.fee(0, 7, 8), 100);
            Checks.due("to 99999", park.fee(0, 0, LAST), 166700);
            Parks.moveTo(park, 5000);
            Checks.due("in the past as well", park.fee(0, 0, 61), 200);
        });
        section.holds("Returns the fee;", () -> {
            everyFee();
            ParkingTariff park = Parks.withPlan("band 0,999,5");
            Checks.due("the greatest fee", park.fee(0, 0, LAST), 19980000);
            Parks.read(park, 3, "band 0,3,60");
            Checks.due("by plan 3", park.fee(3, 0, 61), 6);
            Checks.due("by plan 1", park.fee(1, 0, 61), 200);
        });
        section.holds("BAD_ARGUMENT if there is no such plan or an argument is out of range.", () -> {
            ParkingTariff park = new ParkingTariff();
            for (int plan : NO_PLANS) {
                Checks.due("fee(" + plan + ", 0, 1)", park.fee(plan, 0, 1), BAD_ARGUMENT);
            }
            for (int[] stay : NO_STAYS) {
                Checks.due("fee(0, " + stay[0] + ", " + stay[1] + ")", park.fee(0, stay[0], stay[1]), BAD_ARGUMENT);
            }
        });
    }

    /** Every minute of some stays, added up minute by minute. */
    private static void everyFee() {
        String[] texts = {"free 20;cap 300;band 0,50,15;band 400,0,100;band 900,120,35",
            "days;cap 200;free 9;band 0,30,240;band 1000,70,50", "band 0,1,5;band 3,9,7;band 1439,40,240",
            "days;band 0,0,5;band 700,0,11"};
        for (String text : texts) {
            for (int from = 0; from < 3000; from += 579) {
                int[] fees = plainFees(Parks.withPlan(text), from, 3400);
                ParkingTariff park = null;
                for (int i = 0; i < fees.length; i++) {
                    park = i % 200 == 0 ? Parks.withPlan(text) : park;
                    Checks.due(text + ": fee(0, " + from + ", " + (from + i) + ")", park.fee(0, from, from + i), fees[i]);
                }
                everyExtension(text, from, fees);
            }
        }
    }

    private static void everyExtension(String text, int from, int[] fees) {
        ParkingTariff park = Parks.withPlan(text);
        int end = fees.length - 1;
        for (int i = 0; i <= end; i += 13) {
            int latest = i;
            while (latest < end && fees[latest + 1] == fees[i]) {
                latest++;
            }
            // What lies behind the minutes that were tried is left to the tests of extend.
            int got = Math.min(park.extend(0, from, from + i), from + end);
            Checks.due(text + ": extend(0, " + from + ", " + (from + i) + ")", got, from + latest);
        }
    }

    /** The fees of the stays of 0 to so many minutes, from the properties that the plan tells. */
    private static int[] plainFees(ParkingTariff park, int from, int minutes) {
        int free = park.plan(0, 0);
        int cap = park.plan(0, 1) == 0 ? Integer.MAX_VALUE : park.plan(0, 1);
        boolean days = park.plan(0, 2) == 1;
        int[][] bands = new int[park.plan(0, 4)][3];
        for (int i = 0; i < bands.length * 3; i++) {
            bands[i / 3][i % 3] = park.band(0, i / 3, i % 3);
        }
        int[] fees = new int[minutes];
        int[] sums = new int[80];
        int nextUnit = from;
        for (int i = 1; i < minutes; i++) {
            int minute = from + i - 1;
            if (minute == nextUnit) {
                int[] band = bandOf(bands, minute);
                sums[days ? minute / 1440 : (minute - from) / 1440] += band[1];
                nextUnit += band[2];
            }
            fees[i] = i <= free ? 0 : Arrays.stream(sums).map(sum -> Math.min(sum, cap)).sum();
        }
        return fees;
    }

    private static int[] bandOf(int[][] bands, int minute) {
        int band = bands.length - 1;
        while (bands[band][0] > minute % 1440) {
            band--;
        }
        return bands[band];
    }

    private static void unit() {
        Section section = Section.of("Promise 7: unit");
        section.holds("Returns a part of a unit of a stay, whether it is free or not.", () -> {
            ParkingTariff park = Parks.withPlan("free 60;band 0,1,5;band 1400,2,45");
            Checks.due("within the free minutes", park.unit(0, 100, 1, 0), 105);
            Checks.due("behind them", park.unit(0, 100, 13, 0), 165);
            Checks.due("its band", park.unit(0, 1398, 1, 1), 1);
        });
        section.tells("`plan`: the plan");
        section.holds("`from`: the minute at which the stay begins, 0 to 99999", () -> {
            ParkingTariff park = new ParkingTariff();
            Checks.due("from 0", park.unit(0, 0, 0, 0), 0);
            Checks.due("from 99999", park.unit(0, LAST, 0, 0), LAST);
        });
        section.holds("`index`: the index of the unit, 0 to 99", () -> {
            ParkingTariff park = Parks.withPlan("band 0,0,240");
            Checks.due("index 0", park.unit(0, 5, 0, 0), 5);
            Checks.due("index 1", park.unit(0, 5, 1, 0), 245);
            Checks.due("index 99", park.unit(0, 5, 99, 0), 5 + 99 * 240);
            Checks.due("behind the last minute", park.unit(0, LAST, 99, 0), LAST + 99 * 240);
            Checks.due("its block", park.unit(0, LAST, 99, 2), 16);
        });
        section.holds("BAD_ARGUMENT if there is no such plan or an argument is out of range.", () -> {
            ParkingTariff park = new ParkingTariff();
            for (int plan : NO_PLANS) {
                Checks.due("unit(" + plan + ", 0, 0, 0)", park.unit(plan, 0, 0, 0), BAD_ARGUMENT);
            }
            for (int from : new int[] {-1, LAST + 1, Integer.MIN_VALUE, Integer.MAX_VALUE}) {
                Checks.due("unit(0, " + from + ", 0, 0)", park.unit(0, from, 0, 0), BAD_ARGUMENT);
            }
            for (int index : new int[] {-1, 100, Integer.MIN_VALUE, Integer.MAX_VALUE}) {
                Checks.due("unit(0, 0, " + index + ", 0)", park.unit(0, 0, index, 0), BAD_ARGUMENT);
            }
            for (int what : new int[] {-1, 3, Integer.MIN_VALUE, Integer.MAX_VALUE}) {
                Checks.due("unit(0, 0, 0, " + what + ")", park.unit(0, 0, 0, what), BAD_ARGUMENT);
            }
        });
    }

    private static void partsOfUnits() {
        Section section = Section.of("Promise 7: unit");
        section.holds("`what`: 0 for the minute at which it begins, 1 for its band,"
                + " 2 for the number of its block or, by days, its day", () -> {
            ParkingTariff park = Parks.withPlan("band 0,1,30;band 1400,2,45");
            Checks.due("beginning", park.unit(0, 1390, 2, 0), 1465);
            Checks.due("band", park.unit(0, 1390, 1, 1), 1);
            Checks.due("band of the next day", park.unit(0, 1390, 2, 1), 0);
            Checks.due("block", park.unit(0, 1390, 2, 2), 0);
            Parks.read(park, 0, "days;band 0,1,30;band 1400,2,45");
            Checks.due("day", park.unit(0, 1390, 1, 2), 0);
            Checks.due("the next day", park.unit(0, 1390, 2, 2), 1);
            Checks.due("a later day", park.unit(0, 5000, 0, 2), 3);
        });
        section.holds("Returns the part;", () -> {
            ParkingTariff park = new ParkingTariff();
            Checks.due("the last unit of block 0", park.unit(0, 5, 23, 2), 0);
            Checks.due("the first unit of block 1", park.unit(0, 5, 24, 2), 1);
            Checks.due("the last unit of block 1", park.unit(0, 5, 47, 2), 1);
            Checks.due("the first unit of block 2", park.unit(0, 5, 48, 2), 2);
            Parks.read(park, 0, "days");
            Checks.due("a day behind the last minute", park.unit(0, LAST, 99, 2), (LAST + 99 * 60) / 1440);
        });
    }

    private static void extend() {
        Section section = Section.of("Promise 8: extend");
        section.holds("Returns the greatest minute to which a stay can be extended without a greater fee.", () -> {
            ParkingTariff park = new ParkingTariff();
            Checks.due("no minute", park.extend(0, 7, 7), 7);
            Checks.due("the first minute of a unit", park.extend(0, 7, 8), 67);
            Checks.due("the last minute of a unit", park.extend(0, 7, 67), 67);
            Checks.due("the second unit", park.extend(0, 7, 68), 127);
            extendCapped();
            extendFree();
        });
        section.tells("`plan`: the plan");
        section.holds("`from`: the minute at which it begins, 0 to 99999", () -> {
            ParkingTariff park = new ParkingTariff();
            Checks.due("from 0", park.extend(0, 0, 1), 60);
            Checks.due("from 99999", park.extend(0, LAST, LAST), LAST);
        });
        section.holds("`to`: the minute at which it ends, from to 99999", () -> {
            ParkingTariff park = new ParkingTariff();
            Checks.due("to from", park.extend(0, 50, 50), 50);
            Checks.due("to 99999", park.extend(0, 50, LAST), LAST);
        });
        section.holds("Returns the minute, at most 99999;", () -> {
            ParkingTariff park = new ParkingTariff();
            Checks.due("a unit goes on behind it", park.extend(0, LAST - 10, LAST - 5), LAST);
            Checks.due("a unit ends there", park.extend(0, LAST - 60, LAST - 1), LAST);
            Checks.due("a unit begins one minute before", park.extend(0, LAST - 61, LAST - 2), LAST - 1);
            Parks.read(park, 0, "band 0,0,5");
            Checks.due("all for nothing", park.extend(0, 0, 0), LAST);
            Parks.read(park, 0, "free 60");
            Checks.due("free minutes go on behind it", park.extend(0, LAST - 30, LAST - 30), LAST);
            Checks.due("free minutes end there", park.extend(0, LAST - 60, LAST - 60), LAST);
            Checks.due("free minutes end one minute before", park.extend(0, LAST - 61, LAST - 61), LAST - 1);
            Parks.read(park, 0, "cap 100;days");
            Checks.due("capped for the rest of all", park.extend(0, LAST - 300, LAST - 200), LAST);
        });
    }

    private static void extendCapped() {
        ParkingTariff park = Parks.withPlan("cap 250");
        Checks.due("not yet capped", park.extend(0, 30, 150), 150);
        Checks.due("capped, to the end of the block", park.extend(0, 30, 151), 1470);
        Checks.due("the next block", park.extend(0, 30, 1471), 1530);
        Parks.read(park, 0, "days;cap 250");
        Checks.due("a unit goes on in the next day", park.extend(0, 30, 151), 1470);
        Checks.due("to midnight", park.extend(0, 0, 121), 1440);
        Parks.read(park, 0, "cap 200");
        Checks.due("as much as the cap", park.extend(0, 0, 61), 1440);
        Parks.read(park, 0, "band 0,5,60;band 120,0,60;band 240,5,60");
        Checks.due("over units without a price", park.extend(0, 0, 61), 240);
    }

    private static void extendFree() {
        ParkingTariff park = Parks.withPlan("free 30;band 0,5,10");
        Checks.due("from the first free minute", park.extend(0, 100, 100), 130);
        Checks.due("from the last free minute", park.extend(0, 100, 130), 130);
        Checks.due("from behind them", park.extend(0, 100, 131), 140);
        Parks.read(park, 0, "free 10;band 0,0,20;band 20,5,20");
        Checks.due("units without a price go on behind them", park.extend(0, 0, 5), 20);
        Parks.read(park, 0, "free 30;band 0,0,20;band 20,5,20");
        Checks.due("a unit with a price within them", park.extend(0, 0, 5), 30);
    }

    private static void extendFaults() {
        Section section = Section.of("Promise 8: extend");
        section.holds("BAD_ARGUMENT if there is no such plan or an argument is out of range.", () -> {
            ParkingTariff park = new ParkingTariff();
            for (int plan : NO_PLANS) {
                Checks.due("extend(" + plan + ", 0, 1)", park.extend(plan, 0, 1), BAD_ARGUMENT);
            }
            for (int[] stay : NO_STAYS) {
                Checks.due("extend(0, " + stay[0] + ", " + stay[1] + ")", park.extend(0, stay[0], stay[1]), BAD_ARGUMENT);
            }
        });
    }
}
