/** What the document says of the reports: promises 27 to 29. */
final class ReportSentences {
    private static final int NONE = ParkingTariff.NONE;
    private static final int BAD_TEXT = ParkingTariff.BAD_TEXT;
    private static final int OFFSET = 3;
    private static final int NUMBER = 4;
    private static final int[] NO_LEVELS = {-1, 3, 4, Integer.MIN_VALUE, Integer.MAX_VALUE};

    private ReportSentences() {
    }

    static void run() {
        whatLeavesAReport();
        levels();
        clauses();
        reportLevels();
        reportCode();
        reportNumber();
    }

    private static ParkingTariff withReport(int plan, String text) {
        ParkingTariff park = new ParkingTariff();
        Parks.read(park, plan, text);
        return park;
    }

    private static void report(String text, int clause, int code, int number) {
        Checks.report("'" + text + "'", withReport(1, text), 1, clause, code, number);
    }

    private static void whatLeavesAReport() {
        Section section = Section.of("Description");
        section.holds("A call of readPlan that returns BAD_TEXT leaves a report;", () -> {
            ParkingTariff park = new ParkingTariff();
            Checks.due("readPlan", Parks.read(park, 3, "days;free 61"), BAD_TEXT);
            Checks.report("the first", park, 3, 1, NUMBER, 61);
            Checks.due("readPlan", Parks.read(park, 0, "lost?"), BAD_TEXT);
            Checks.report("the second", park, 0, 0, OFFSET, 4);
            Checks.due("readPlan", park.readPlan(2), BAD_TEXT);
            Checks.report("the third", park, 2, 0, OFFSET, 0);
        });
        section.holds("other calls, also of readPlan, do not change it.", () -> {
            ParkingTariff park = withReport(3, "days;free 61");
            Checks.due("readPlan", Parks.read(park, 1, "days"), 1);
            Checks.report("a plan", park, 3, 1, NUMBER, 61);
            Checks.due("readPlan", Parks.read(park, 4, "x"), ParkingTariff.BAD_ARGUMENT);
            Checks.report("no such plan", park, 3, 1, NUMBER, 61);
            Checks.due("readPlan", Parks.read(park, -1, "days"), ParkingTariff.BAD_ARGUMENT);
            Checks.report("no such plan", park, 3, 1, NUMBER, 61);
            Scenes.everyOtherCall(park);
            Checks.report("every other call", park, 3, 1, NUMBER, 61);
        });
        section.holds("At first it has no levels.", () -> {
            ParkingTariff park = new ParkingTariff();
            Checks.noReport("new", park);
            Parks.read(park, 0, "cap 5");
            Checks.noReport("a plan", park);
            Parks.read(park, 4, "cup 5");
            Checks.noReport("no such plan", park);
            Scenes.everyOtherCall(park);
            Checks.noReport("every other call", park);
        });
    }

    private static void levels() {
        Section section = Section.of("Description");
        section.holds("A report has levels, numbered from 0;", () -> {
            ParkingTariff park = withReport(2, "x");
            for (int level = 0; level < 3; level++) {
                Checks.due("level " + level + " has a code", park.reportCode(level) > 0 ? 1 : 0, 1);
                Checks.due("level " + level + " has a number", park.reportNumber(level) >= 0 ? 1 : 0, 1);
            }
            Checks.due("none before level 0", park.reportCode(-1), NONE);
            Checks.due("none behind level 2", park.reportCode(3), NONE);
        });
        section.tells("each level is the cause of the level before it.");
        section.holds("Level 0 has code 1 and the plan;", () -> {
            for (int plan = 0; plan < 4; plan++) {
                ParkingTariff park = withReport(plan, "days;x");
                Checks.due("code", park.reportCode(0), 1);
                Checks.due("plan", park.reportNumber(0), plan);
            }
        });
        section.holds("level 2 has code 3 and the error offset,", () -> {
            report("", 0, OFFSET, 0);
            report("cap", 0, OFFSET, 3);
            report("cap 1,", 0, OFFSET, 5);
            report("days;".repeat(18), 18, OFFSET, 90);
        });
        section.holds("or, if a number is out of range or the bands are not in order, code 4 and the number.", () -> {
            report("free 61", 0, NUMBER, 61);
            report("free 0061", 0, NUMBER, 61);
            report("free 9999", 0, NUMBER, 9999);
            report("band 1440,1,5", 0, NUMBER, 1440);
            report("band 0,1000,5", 0, NUMBER, 1000);
            report("band 0,1,4", 0, NUMBER, 4);
            report("band 0,1,0", 0, NUMBER, 0);
            report("band 0,1,241", 0, NUMBER, 241);
            report("band 2,1,5", 0, NUMBER, 2);
            report("band 0,1,5;band 0,1,5", 1, NUMBER, 0);
        });
    }

    private static void clauses() {
        Section section = Section.of("Description");
        section.holds("level 1 has code 2 and the number of the clause, from 0,", () -> {
            Checks.due("code", withReport(0, "x").reportCode(1), 2);
            Checks.due("the first clause", withReport(0, "x").reportNumber(1), 0);
            Checks.due("the second clause", withReport(0, "days;free 61").reportNumber(1), 1);
            Checks.due("the third clause", withReport(0, "cap 5;band 0,1,5;cap").reportNumber(1), 2);
            Checks.due("the last clause", withReport(0, "days;".repeat(17) + "days!").reportNumber(1), 17);
        });
        section.holds("where a character that cannot stand after a complete clause counts for this clause,", () -> {
            report("days ", 0, OFFSET, 4);
            report("days,", 0, OFFSET, 4);
            report("cap 12345", 0, OFFSET, 8);
            report("days;cap 1 ;days", 1, OFFSET, 10);
            report("days;days;band 0,1,5.", 2, OFFSET, 20);
        });
        section.holds("and what stands after a \";\",", () -> {
            report("days;;", 1, OFFSET, 5);
            report("days; days", 1, OFFSET, 5);
            report("days;1", 1, OFFSET, 5);
            report("days;cap 1;Days", 2, OFFSET, 11);
        });
        section.holds("or is missing there, for the clause that would begin there;", () -> {
            report("days;", 1, OFFSET, 5);
            report("cap 1;free 2;", 2, OFFSET, 13);
        });
    }

    private static void reportLevels() {
        Section section = Section.of("Promise 27: reportLevels");
        section.holds("Returns the number of levels of the report.", () -> {
            Checks.due("after an offset", withReport(0, "x").reportLevels(), 3);
            Checks.due("after a number", withReport(0, "free 61").reportLevels(), 3);
        });
        section.holds("Returns the number of levels.", () ->
                Checks.due("without a report", new ParkingTariff().reportLevels(), 0));
    }

    private static void reportCode() {
        Section section = Section.of("Promise 28: reportCode");
        section.holds("Returns the code of a level of the report.", () -> {
            ParkingTariff park = withReport(0, "x");
            Checks.due("level 0", park.reportCode(0), 1);
            Checks.due("level 1", park.reportCode(1), 2);
            Checks.due("level 2", park.reportCode(2), OFFSET);
        });
        section.tells("`level`: the level");
        section.holds("Returns the code;", () ->
                Checks.due("level 2", withReport(0, "free 61").reportCode(2), NUMBER));
        section.holds("NONE if there is no such level.", () -> {
            ParkingTariff park = withReport(0, "x");
            for (int level : NO_LEVELS) {
                Checks.due("reportCode(" + level + ")", park.reportCode(level), NONE);
            }
            for (int level = -1; level < 4; level++) {
                Checks.due("reportCode(" + level + ") without a report", new ParkingTariff().reportCode(level), NONE);
            }
        });
    }

    private static void reportNumber() {
        Section section = Section.of("Promise 29: reportNumber");
        section.holds("Returns the number of a level of the report.", () -> {
            ParkingTariff park = withReport(3, "cap 1;lost 2;free 77");
            Checks.due("level 0", park.reportNumber(0), 3);
            Checks.due("level 1", park.reportNumber(1), 2);
            Checks.due("level 2", park.reportNumber(2), 77);
        });
        section.tells("`level`: the level");
        section.holds("Returns the plan, clause, offset or number;", () -> {
            ParkingTariff park = withReport(2, "cap 1;lost 2!");
            Checks.due("the plan", park.reportNumber(0), 2);
            Checks.due("the clause", park.reportNumber(1), 1);
            Checks.due("the offset", park.reportNumber(2), 12);
            Checks.due("the number", withReport(2, "band 0,1,250").reportNumber(2), 250);
        });
        section.holds("NONE if there is no such level.", () -> {
            ParkingTariff park = withReport(3, "free 61");
            for (int level : NO_LEVELS) {
                Checks.due("reportNumber(" + level + ")", park.reportNumber(level), NONE);
            }
            for (int level = -1; level < 4; level++) {
                Checks.due("reportNumber(" + level + ") without a report", new ParkingTariff().reportNumber(level), NONE);
            }
        });
    }
}
