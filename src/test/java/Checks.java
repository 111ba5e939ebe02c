/** Counts the answers that are not the ones that are due. */
final class Checks {
    private static int wrong = 0;

    private Checks() {
    }

    static void due(String what, long got, long want) {
        if (got != want) {
            wrong++;
            System.out.println(what + " answered " + got + ", due is " + want);
        }
    }

    /** Appends a text sign by sign and reads it as a plan. */
    static int read(ParkingTariff park, int plan, String text) {
        write(park, text);
        return park.readPlan(plan);
    }

    static void write(ParkingTariff park, String text) {
        for (int i = 0; i < text.length(); i++) {
            park.append(text.charAt(i), 1);
        }
    }

    /** Reads a text that is no plan and looks at the whole report. */
    static void badText(String text, int clause, int code, int number) {
        ParkingTariff park = new ParkingTariff();
        due("'" + text + "' readPlan", read(park, 2, text), ParkingTariff.BAD_TEXT);
        report("'" + text + "'", park, 2, clause, code, number);
        due("'" + text + "' count(11)", park.count(11), 0);
        firstPlan("'" + text + "' leaves", park, 2);
    }

    static void report(String what, ParkingTariff park, int plan, int clause, int code, int number) {
        due(what + " reportLevels", park.reportLevels(), 3);
        due(what + " reportCode(0)", park.reportCode(0), 1);
        due(what + " reportNumber(0)", park.reportNumber(0), plan);
        due(what + " reportCode(1)", park.reportCode(1), 2);
        due(what + " reportNumber(1)", park.reportNumber(1), clause);
        due(what + " reportCode(2)", park.reportCode(2), code);
        due(what + " reportNumber(2)", park.reportNumber(2), number);
    }

    static void firstPlan(String what, ParkingTariff park, int plan) {
        plan(what, park, plan, 0, 0, 0, 2000, 1);
        band(what, park, plan, 0, 0, 100, 60);
        due(what + " no band 1", park.band(plan, 1, 0), ParkingTariff.NONE);
    }

    static void plan(String what, ParkingTariff park, int plan, int... properties) {
        for (int i = 0; i < properties.length; i++) {
            due(what + " plan(" + plan + ", " + i + ")", park.plan(plan, i), properties[i]);
        }
    }

    static void band(String what, ParkingTariff park, int plan, int band, int... properties) {
        for (int i = 0; i < properties.length; i++) {
            due(what + " band(" + plan + ", " + band + ", " + i + ")", park.band(plan, band, i), properties[i]);
        }
    }

    static void ticket(String what, ParkingTariff park, int ticket, int... properties) {
        for (int i = 0; i < properties.length; i++) {
            due(what + " ticket(" + ticket + ", " + i + ")", park.ticket(ticket, i), properties[i]);
        }
    }

    /** Moves the clock from wherever it stands to a minute. */
    static void moveTo(ParkingTariff park, int minute) {
        while (park.count(0) < minute) {
            park.advance(Math.min(3000, minute - park.count(0)));
        }
    }

    static void end() {
        System.out.println(wrong == 0 ? "all answers are as due" : wrong + " answers are not as due");
        if (wrong != 0) {
            System.exit(1);
        }
    }
}
