/** Promises 4 to 8: the properties of plans and bands, fees, units and extending. */
public final class PlanTest {
    private static final int BAD_ARGUMENT = ParkingTariff.BAD_ARGUMENT;
    private static final int LAST = 99999;

    public static void main(String[] args) {
        wrongArguments();
        freeMinutes();
        bandOfUnits();
        capByBlocks();
        capByDays();
        units();
        extend();
        extendToTheEnd();
        extendInFreeMinutes();
        againstBruteForce();
        Checks.end();
    }

    private static void wrongArguments() {
        ParkingTariff park = new ParkingTariff();
        for (int plan : new int[] {-1, 4, Integer.MIN_VALUE, Integer.MAX_VALUE}) {
            Checks.due("plan", park.plan(plan, 0), BAD_ARGUMENT);
            Checks.due("band", park.band(plan, 0, 0), BAD_ARGUMENT);
            Checks.due("fee", park.fee(plan, 0, 1), BAD_ARGUMENT);
            Checks.due("unit", park.unit(plan, 0, 0, 0), BAD_ARGUMENT);
            Checks.due("extend", park.extend(plan, 0, 1), BAD_ARGUMENT);
        }
        Checks.due("plan(0, -1)", park.plan(0, -1), BAD_ARGUMENT);
        Checks.due("plan(0, 5)", park.plan(0, 5), BAD_ARGUMENT);
        Checks.due("band(0, 0, -1)", park.band(0, 0, -1), BAD_ARGUMENT);
        Checks.due("band(0, 0, 3)", park.band(0, 0, 3), BAD_ARGUMENT);
        Checks.due("band(0, 9, 3)", park.band(0, 9, 3), BAD_ARGUMENT);
        Checks.due("band(0, 1, 0)", park.band(0, 1, 0), ParkingTariff.NONE);
        Checks.due("band(0, 6, 0)", park.band(0, 6, 0), ParkingTariff.NONE);
        Checks.due("band(0, -1, 0)", park.band(0, -1, 0), ParkingTariff.NONE);
        int[][] stays = {{-1, 0}, {-1, -1}, {1, 0}, {0, 100000}, {100000, 100000}, {5, Integer.MIN_VALUE}};
        for (int[] stay : stays) {
            Checks.due("fee of " + stay[0], park.fee(0, stay[0], stay[1]), BAD_ARGUMENT);
            Checks.due("extend of " + stay[0], park.extend(0, stay[0], stay[1]), BAD_ARGUMENT);
        }
        Checks.due("unit from -1", park.unit(0, -1, 0, 0), BAD_ARGUMENT);
        Checks.due("unit from 100000", park.unit(0, 100000, 0, 0), BAD_ARGUMENT);
        Checks.due("unit -1", park.unit(0, 0, -1, 0), BAD_ARGUMENT);
        Checks.due("unit 100", park.unit(0, 0, 100, 0), BAD_ARGUMENT);
        Checks.due("unit what -1", park.unit(0, 0, 0, -1), BAD_ARGUMENT);
        Checks.due("unit what 3", park.unit(0, 0, 0, 3), BAD_ARGUMENT);
        Checks.due("fee(3, 99999, 99999)", park.fee(3, LAST, LAST), 0);
        Checks.due("fee(3, 99998, 99999)", park.fee(3, LAST - 1, LAST), 100);
        Checks.due("fee(3, 0, 99999)", park.fee(3, 0, LAST), 166700);
    }

    private static void freeMinutes() {
        ParkingTariff park = new ParkingTariff();
        Checks.read(park, 1, "free 60;band 0,7,30");
        Checks.due("nothing", park.fee(1, 100, 100), 0);
        Checks.due("all free", park.fee(1, 100, 160), 0);
        Checks.due("not free", park.fee(1, 100, 161), 21);
        Checks.due("another plan", park.fee(0, 100, 160), 100);
    }

    private static void bandOfUnits() {
        ParkingTariff park = new ParkingTariff();
        Checks.read(park, 0, "band 0,1,240;band 100,20,10;band 1430,300,60");
        Checks.due("a unit goes on in the next band", park.fee(0, 0, 240), 1);
        Checks.due("then comes the other band", park.fee(0, 0, 241), 21);
        Checks.due("a band begins at its beginning", park.fee(0, 100, 101), 20);
        Checks.due("the minute before it", park.fee(0, 99, 100), 1);
        Checks.due("the last band", park.fee(0, 1430, 1490), 300);
        Checks.due("the next day", park.fee(0, 1430, 1491), 301);
        Checks.due("the end of the day", park.fee(0, 1439, 1440), 300);
        Checks.due("another day", park.fee(0, 1440 * 9 + 1439, 1440 * 10 + 61), 301);
    }

    private static void capByBlocks() {
        ParkingTariff park = new ParkingTariff();
        Checks.read(park, 0, "cap 250;band 0,100,60");
        Checks.due("below", park.fee(0, 1000, 1120), 200);
        Checks.due("capped", park.fee(0, 1000, 1121), 250);
        Checks.due("capped over midnight", park.fee(0, 1000, 2440), 250);
        Checks.due("the second block", park.fee(0, 1000, 2441), 350);
        Checks.due("the third block", park.fee(0, 1000, 3881), 600);
        Checks.read(park, 0, "cap 300;band 0,100,60");
        Checks.due("as much as the cap", park.fee(0, 0, 180), 300);
        Checks.due("no more", park.fee(0, 0, 181), 300);
        Checks.read(park, 0, "cap 50;band 0,100,100");
        Checks.due("a unit belongs to the block of its beginning", park.fee(0, 0, 1500), 50);
        Checks.due("and not to that of its end", park.fee(0, 0, 1501), 100);
    }

    private static void capByDays() {
        ParkingTariff park = new ParkingTariff();
        Checks.read(park, 0, "days;cap 250;band 0,100,60");
        Checks.due("below", park.fee(0, 1300, 1420), 200);
        Checks.due("capped", park.fee(0, 1300, 1421), 250);
        Checks.due("a unit of the new day", park.fee(0, 1300, 1481), 350);
        Checks.due("two days", park.fee(0, 1300, 2880), 500);
        Checks.due("days are no blocks", park.fee(0, 1300, 2740), 500);
        Checks.due("a unit that begins at midnight", park.fee(0, 1380, 1441), 200);
        Checks.read(park, 0, "days;band 0,100,60");
        Checks.due("no cap", park.fee(0, 0, 1440 * 3), 7200);
    }

    private static void units() {
        ParkingTariff park = new ParkingTariff();
        Checks.read(park, 0, "free 60;band 0,1,30;band 1400,2,45");
        Checks.due("the first one", park.unit(0, 1390, 0, 0), 1390);
        Checks.due("its band", park.unit(0, 1390, 0, 1), 0);
        Checks.due("the second one", park.unit(0, 1390, 1, 0), 1420);
        Checks.due("its band", park.unit(0, 1390, 1, 1), 1);
        Checks.due("its block", park.unit(0, 1390, 1, 2), 0);
        Checks.due("the third one", park.unit(0, 1390, 2, 0), 1465);
        Checks.due("its band", park.unit(0, 1390, 2, 1), 0);
        Checks.due("its block", park.unit(0, 1390, 2, 2), 0);
        Checks.due("the first minute", park.unit(3, 0, 0, 0), 0);
        Checks.due("its last unit", park.unit(3, 0, 99, 0), 99 * 60);
        Checks.due("the last minute", park.unit(3, 99999, 0, 0), 99999);
        Checks.due("far behind it", park.unit(3, 99999, 99, 0), 99999 + 99 * 60);
        Checks.due("its block", park.unit(3, 99999, 99, 2), 4);
        Checks.due("the last block's edge", park.unit(3, 5, 23, 2), 0);
        Checks.due("the next block", park.unit(3, 5, 24, 2), 1);
        Checks.read(park, 3, "days");
        Checks.due("by days", park.unit(3, 99999, 0, 2), 69);
        Checks.due("the day's end", park.unit(3, 1439, 0, 2), 0);
        Checks.due("the next day", park.unit(3, 1439, 1, 2), 1);
        Checks.due("midnight", park.unit(3, 1440, 0, 2), 1);
    }

    private static void extend() {
        ParkingTariff park = new ParkingTariff();
        Checks.due("nothing", park.extend(0, 7, 7), 7);
        Checks.due("one unit", park.extend(0, 7, 8), 67);
        Checks.due("its end", park.extend(0, 7, 67), 67);
        Checks.due("the second one", park.extend(0, 7, 68), 127);
        Checks.read(park, 1, "cap 250");
        Checks.due("capped", park.extend(1, 30, 160), 1470);
        Checks.due("not yet capped", park.extend(1, 30, 150), 150);
        Checks.due("the second block", park.extend(1, 30, 1471), 1530);
        Checks.read(park, 1, "days;cap 250");
        Checks.due("by days", park.extend(1, 30, 160), 1470);
        Checks.due("by days, from midnight", park.extend(1, 0, 160), 1440);
        Checks.read(park, 1, "band 0,5,60;band 120,0,60;band 240,5,60");
        Checks.due("over units without a price", park.extend(1, 0, 61), 240);
    }

    private static void extendToTheEnd() {
        ParkingTariff park = new ParkingTariff();
        Checks.due("the last minute", park.extend(0, LAST, LAST), LAST);
        Checks.due("the last unit", park.extend(0, LAST - 60, LAST - 1), LAST);
        Checks.due("just before it", park.extend(0, LAST - 61, LAST - 1), LAST - 1);
        Checks.due("the unit goes on behind it", park.extend(0, LAST - 10, LAST - 5), LAST);
        Checks.read(park, 0, "band 0,0,5");
        Checks.due("all for nothing", park.extend(0, 0, 0), LAST);
        Checks.read(park, 0, "free 60");
        Checks.due("free to the end", park.extend(0, LAST - 30, LAST - 30), LAST);
        Checks.due("free to just the end", park.extend(0, LAST - 60, LAST - 60), LAST);
        Checks.due("free to just before it", park.extend(0, LAST - 61, LAST - 61), LAST - 1);
    }

    private static void extendInFreeMinutes() {
        ParkingTariff park = new ParkingTariff();
        Checks.read(park, 0, "free 30;band 0,5,10");
        Checks.due("to the end of the free minutes", park.extend(0, 100, 100), 130);
        Checks.due("from there", park.extend(0, 100, 130), 130);
        Checks.due("behind it", park.extend(0, 100, 131), 140);
        Checks.read(park, 0, "free 10;band 0,0,20;band 20,5,20");
        Checks.due("units without a price behind it", park.extend(0, 0, 5), 20);
        Checks.read(park, 0, "free 30;band 0,0,20;band 20,5,20");
        Checks.due("a unit with a price within it", park.extend(0, 0, 5), 30);
    }

    private static void againstBruteForce() {
        String[] texts = {"free 20;cap 300;band 0,50,15;band 400,0,100;band 900,120,35",
            "days;cap 200;free 9;band 0,30,240;band 1000,70,50", "band 0,1,5;band 3,9,7;band 1439,40,240",
            "days;band 0,0,5;band 700,0,11"};
        for (String text : texts) {
            ParkingTariff park = new ParkingTariff();
            Checks.read(park, 2, text);
            for (int from = 0; from < 4000; from += 321) {
                compareStays(park, text, from);
            }
        }
    }

    private static void compareStays(ParkingTariff park, String text, int from) {
        int end = from + 3500;
        long[] fees = new long[end - from + 1];
        for (int to = from; to <= end; to++) {
            fees[to - from] = plainFee(park, from, to);
            Checks.due(text + ": fee(" + from + ", " + to + ")", park.fee(2, from, to), fees[to - from]);
        }
        for (int to = from; to <= end; to += 17) {
            int latest = to;
            while (latest < end && fees[latest + 1 - from] == fees[to - from]) {
                latest++;
            }
            int got = park.extend(2, from, to);
            // What lies behind the minutes that were tried is left to the other tests.
            Checks.due(text + ": extend(" + from + ", " + to + ")", Math.min(got, end), latest);
        }
    }

    /** Adds a price minute by minute, from the properties that the plan tells. */
    private static long plainFee(ParkingTariff park, int from, int to) {
        if (to - from <= park.plan(2, 0)) {
            return 0;
        }
        long[] sums = new long[80];
        int nextUnit = from;
        for (int minute = from; minute < to; minute++) {
            if (minute == nextUnit) {
                int band = park.plan(2, 4) - 1;
                while (park.band(2, band, 0) > minute % 1440) {
                    band--;
                }
                sums[park.plan(2, 2) == 0 ? (minute - from) / 1440 : minute / 1440] += park.band(2, band, 1);
                nextUnit += park.band(2, band, 2);
            }
        }
        long fee = 0;
        for (long sum : sums) {
            fee += park.plan(2, 1) == 0 ? sum : Math.min(sum, park.plan(2, 1));
        }
        return fee;
    }
}
