/** What the document says of plans and their bands: promises 4 and 5. */
final class PlanSentences {
    private static final int NONE = ParkingTariff.NONE;
    private static final int BAD_ARGUMENT = ParkingTariff.BAD_ARGUMENT;
    private static final int BAD_TEXT = ParkingTariff.BAD_TEXT;
    private static final String MANY = "free 1;cap 2;lost 3;days;band 0,4,5;band 6,7,8;band 9,10,11";

    private PlanSentences() {
    }

    static void run() {
        plans();
        bands();
        atFirst();
        plan();
        band();
    }

    /** Tells the least and the greatest number, and the one behind it if the text can hold it. */
    private static void range(String before, String after, int property, int least, int greatest) {
        ParkingTariff park = Parks.withPlan(before + least + after);
        Checks.due("the least", park.plan(0, property), least);
        Checks.due("readPlan of the greatest", Parks.read(park, 0, before + greatest + after), 1);
        Checks.due("the greatest", park.plan(0, property), greatest);
        if (greatest < 9999) {
            Checks.due("readPlan of one more", Parks.read(park, 0, before + (greatest + 1) + after), BAD_TEXT);
            Checks.due("the greatest stays", park.plan(0, property), greatest);
        }
    }

    private static void plans() {
        Section section = Section.of("Description");
        section.holds("There are 4 plans, numbered from 0.", () -> {
            ParkingTariff park = new ParkingTariff();
            for (int plan = 0; plan < 4; plan++) {
                Checks.due("plan " + plan, Parks.read(park, plan, "cap " + (plan + 10)), 1);
            }
            for (int plan = 0; plan < 4; plan++) {
                Checks.due("cap of plan " + plan, park.plan(plan, 1), plan + 10);
            }
            Checks.due("plan -1", park.plan(-1, 1), BAD_ARGUMENT);
            Checks.due("plan 4", park.plan(4, 1), BAD_ARGUMENT);
        });
        section.holds("A plan has free minutes from 0 to 60,", () -> range("free ", "", 0, 0, 60));
        section.holds("a cap from 0 to 9999,", () -> range("cap ", "", 1, 0, 9999));
        section.holds("where 0 means none,", () -> {
            ParkingTariff park = Parks.withPlan("cap 0");
            Checks.due("without a cap", park.fee(0, 0, 14400), 24000);
            Parks.read(park, 0, "days;cap 0");
            Checks.due("without a cap, by days", park.fee(0, 0, 14400), 24000);
            Parks.read(park, 0, "cap 1");
            Checks.due("the least cap", park.fee(0, 0, 14400), 10);
        });
        section.holds("a way of capping, 0 by blocks or 1 by days,", () -> {
            ParkingTariff park = Parks.withPlan("cap 150");
            Checks.due("by blocks", park.plan(0, 2), 0);
            Checks.due("its fee", park.fee(0, 1380, 1500), 150);
            Parks.read(park, 0, "days;cap 150");
            Checks.due("by days", park.plan(0, 2), 1);
            Checks.due("its fee", park.fee(0, 1380, 1500), 200);
        });
        section.holds("a lost fee from 0 to 9999,", () -> {
            range("lost ", "", 3, 0, 9999);
            ParkingTariff park = Parks.withPlan("lost 9999");
            park.enter(0);
            Checks.due("the greatest is due", park.lose(0), 9999);
            Parks.read(park, 0, "lost 0");
            Checks.due("the least is due", park.due(0, 0), 0);
        });
        section.holds("and 1 to 6 bands.", () -> {
            ParkingTariff park = Parks.withPlan("band 0,1,5");
            Checks.due("one", park.plan(0, 4), 1);
            String six = "band 0,1,5;band 1,2,6;band 2,3,7;band 3,4,8;band 4,5,9;band 5,6,10";
            Checks.due("readPlan of six", Parks.read(park, 0, six), 6);
            Checks.due("six", park.plan(0, 4), 6);
            for (int band = 0; band < 6; band++) {
                Checks.band("one of six", park, 0, band, band, band + 1, band + 5);
            }
            Checks.due("the sixth is used", park.fee(0, 5, 6), 6);
            Checks.due("readPlan of seven", Parks.read(park, 0, six + ";band 6,7,11"), BAD_TEXT);
            Checks.due("six stay", park.plan(0, 4), 6);
        });
    }

    private static void bands() {
        Section section = Section.of("Description");
        section.holds("A band has a beginning, which is a minute of the day,", () -> {
            ParkingTariff park = Parks.withPlan("band 0,1,5;band 1439,2,5");
            Checks.due("the least", park.band(0, 0, 0), 0);
            Checks.due("the greatest", park.band(0, 1, 0), 1439);
            Checks.due("one more", Parks.read(park, 0, "band 0,1,5;band 1440,2,5"), BAD_TEXT);
        });
        section.holds("a price from 0 to 999", () -> {
            ParkingTariff park = Parks.withPlan("band 0,0,5;band 1,999,5");
            Checks.due("the least", park.band(0, 0, 1), 0);
            Checks.due("the greatest", park.band(0, 1, 1), 999);
            Checks.due("a fee of both", park.fee(0, 0, 6), 999);
            Checks.due("one more", Parks.read(park, 0, "band 0,1000,5"), BAD_TEXT);
        });
        section.holds("and a length from 5 to 240 minutes.", () -> {
            ParkingTariff park = Parks.withPlan("band 0,1,5;band 1,1,240");
            Checks.due("the least", park.band(0, 0, 2), 5);
            Checks.due("the greatest", park.band(0, 1, 2), 240);
            Checks.due("the unit behind both", park.unit(0, 0, 2, 0), 245);
            Checks.due("one less", Parks.read(park, 0, "band 0,1,4"), BAD_TEXT);
            Checks.due("one more", Parks.read(park, 0, "band 0,1,241"), BAD_TEXT);
        });
        section.holds("The first band begins at 0,", () -> {
            Checks.due("at 0", Parks.read(new ParkingTariff(), 0, "band 0,1,5"), 1);
            Checks.due("at 1", Parks.read(new ParkingTariff(), 0, "band 1,1,5"), BAD_TEXT);
            Checks.due("at 1439", Parks.read(new ParkingTariff(), 0, "band 1439,1,5;band 0,1,5"), BAD_TEXT);
        });
        section.holds("and each other one later than the one before;", () -> {
            Checks.due("one minute later", Parks.read(new ParkingTariff(), 0, "band 0,1,5;band 1,1,5;band 2,1,5"), 3);
            Checks.due("as late", Parks.read(new ParkingTariff(), 0, "band 0,1,5;band 1,1,5;band 1,1,5"), BAD_TEXT);
            Checks.due("earlier", Parks.read(new ParkingTariff(), 0, "band 0,1,5;band 2,1,5;band 1,1,5"), BAD_TEXT);
            Checks.due("the second at 0", Parks.read(new ParkingTariff(), 0, "band 0,1,5;band 0,1,5"), BAD_TEXT);
        });
        section.holds("a band lasts until the next one begins,", () -> {
            ParkingTariff park = Parks.withPlan("band 0,1,5;band 100,2,5;band 101,3,5;band 200,4,5");
            int[][] bandsOfMinutes = {{0, 0}, {99, 0}, {100, 1}, {101, 2}, {199, 2}, {200, 3}};
            for (int[] pair : bandsOfMinutes) {
                Checks.due("band of minute " + pair[0], park.unit(0, pair[0], 0, 1), pair[1]);
                Checks.due("price at minute " + pair[0], park.fee(0, pair[0], pair[0] + 1), pair[1] + 1);
            }
        });
        section.holds("or to the end of the day.", () -> {
            ParkingTariff park = Parks.withPlan("band 0,1,5;band 100,2,5;band 1439,3,5");
            int[][] bandsOfMinutes = {{1438, 1}, {1439, 2}, {1440, 0}, {1441, 0}, {1539, 0}, {1540, 1}, {2879, 2}, {2880, 0}};
            for (int[] pair : bandsOfMinutes) {
                Checks.due("band of minute " + pair[0], park.unit(0, pair[0], 0, 1), pair[1]);
                Checks.due("price at minute " + pair[0], park.fee(0, pair[0], pair[0] + 1), pair[1] + 1);
            }
        });
    }

    private static void atFirst() {
        Section section = Section.of("Description");
        section.holds("At first, all plans have no free minutes, no cap, capping by blocks,"
                + " the lost fee 2000, and one band with the price 100 and the length 60.", () -> {
            ParkingTariff park = new ParkingTariff();
            for (int plan = 0; plan < 4; plan++) {
                Checks.firstPlan("at first", park, plan);
                Checks.due("no free minutes", park.fee(plan, 0, 1), 100);
                Checks.due("no cap", park.fee(plan, 0, 1440), 2400);
                Checks.due("the second unit", park.fee(plan, 0, 61), 200);
                Checks.due("blocks", park.unit(plan, 1439, 1, 2), 0);
                park.enter(plan);
                Checks.due("the lost fee", park.lose(plan), 2000);
            }
        });
    }

    private static void plan() {
        Section section = Section.of("Promise 4: plan");
        section.holds("Returns a property of a plan.", () -> {
            ParkingTariff park = Parks.withPlan(MANY);
            Checks.plan("of plan 0", park, 0, 1, 2, 1, 3, 3);
            Checks.plan("of plan 3", park, 3, 0, 0, 0, 2000, 1);
        });
        section.tells("`plan`: the plan");
        section.holds("`what`: 0 for the free minutes, 1 for the cap, 2 for the way of capping,"
                + " 3 for the lost fee, 4 for the number of bands", () -> {
            ParkingTariff park = Parks.withPlan(MANY);
            Checks.due("free minutes", park.plan(0, 0), 1);
            Checks.due("cap", park.plan(0, 1), 2);
            Checks.due("way of capping", park.plan(0, 2), 1);
            Checks.due("lost fee", park.plan(0, 3), 3);
            Checks.due("number of bands", park.plan(0, 4), 3);
        });
        section.holds("Returns the property;", () -> {
            ParkingTariff park = Parks.withPlan("free 60;cap 9999;lost 9998");
            Checks.plan("the greatest", park, 0, 60, 9999, 0, 9998, 1);
        });
        section.holds("BAD_ARGUMENT if there is no such plan or what is not from 0 to 4.", () -> {
            ParkingTariff park = new ParkingTariff();
            for (int plan : new int[] {-1, 4, 5, Integer.MIN_VALUE, Integer.MAX_VALUE}) {
                for (int what = 0; what < 5; what++) {
                    Checks.due("plan(" + plan + ", " + what + ")", park.plan(plan, what), BAD_ARGUMENT);
                }
            }
            for (int what : new int[] {-1, 5, Integer.MIN_VALUE, Integer.MAX_VALUE}) {
                Checks.due("plan(0, " + what + ")", park.plan(0, what), BAD_ARGUMENT);
                Checks.due("plan(4, " + what + ")", park.plan(4, what), BAD_ARGUMENT);
            }
        });
    }

    private static void band() {
        Section section = Section.of("Promise 5: band");
        section.holds("Returns a property of a band.", () -> {
            ParkingTariff park = Parks.withPlan(MANY);
            Checks.band("first", park, 0, 0, 0, 4, 5);
            Checks.band("of another plan", park, 1, 0, 0, 100, 60);
        });
        section.tells("`plan`: the plan");
        section.holds("`band`: the band", () -> {
            ParkingTariff park = Parks.withPlan(MANY);
            Checks.due("the first", park.band(0, 0, 0), 0);
            Checks.due("the second", park.band(0, 1, 0), 6);
            Checks.due("the third", park.band(0, 2, 0), 9);
        });
        section.holds("`what`: 0 for the beginning, 1 for the price, 2 for the length", () -> {
            ParkingTariff park = Parks.withPlan(MANY);
            Checks.due("beginning", park.band(0, 1, 0), 6);
            Checks.due("price", park.band(0, 1, 1), 7);
            Checks.due("length", park.band(0, 1, 2), 8);
        });
        section.holds("Returns the property;", () -> {
            ParkingTariff park = Parks.withPlan("band 0,999,240;band 1439,0,5");
            Checks.band("the greatest", park, 0, 0, 0, 999, 240);
            Checks.band("the least", park, 0, 1, 1439, 0, 5);
        });
        section.holds("BAD_ARGUMENT if there is no such plan or what is not from 0 to 2;", () -> {
            ParkingTariff park = new ParkingTariff();
            for (int plan : new int[] {-1, 4, Integer.MIN_VALUE, Integer.MAX_VALUE}) {
                Checks.due("band(" + plan + ", 0, 0)", park.band(plan, 0, 0), BAD_ARGUMENT);
                Checks.due("band(" + plan + ", 9, 0)", park.band(plan, 9, 0), BAD_ARGUMENT);
            }
            for (int what : new int[] {-1, 3, Integer.MIN_VALUE, Integer.MAX_VALUE}) {
                Checks.due("band(0, 0, " + what + ")", park.band(0, 0, what), BAD_ARGUMENT);
                Checks.due("band(0, 9, " + what + ")", park.band(0, 9, what), BAD_ARGUMENT);
            }
        });
        section.holds("NONE if there is no such band.", () -> {
            ParkingTariff park = Parks.withPlan(MANY);
            for (int band : new int[] {-1, 3, 5, 6, 7, Integer.MIN_VALUE, Integer.MAX_VALUE}) {
                Checks.due("band(0, " + band + ", 0)", park.band(0, band, 0), NONE);
            }
            Checks.due("band(1, 1, 0)", park.band(1, 1, 0), NONE);
            Parks.read(park, 0, "band 0,1,5");
            Checks.due("a band of the plan before", park.band(0, 1, 2), NONE);
        });
    }
}
