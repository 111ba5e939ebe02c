/** Counts the answers that are not the ones that are due, and tells what was looked at. */
final class Checks {
    private static final long LONGEST_MILLISECONDS = 180_000;
    private static int wrong = 0;
    private static volatile String about = "";

    static {
        Thread watch = new Thread(Checks::failIfItDoesNotEnd);
        watch.setDaemon(true);
        watch.start();
    }

    private Checks() {
    }

    /** A call that does not end is a wrong answer too: without this, nobody would ever be told. */
    private static void failIfItDoesNotEnd() {
        try {
            Thread.sleep(LONGEST_MILLISECONDS);
        } catch (InterruptedException e) {
            return;
        }
        System.out.println(about + " does not end");
        Runtime.getRuntime().halt(1);
    }

    /** What the following checks are about; it is printed with the first of them that fails. */
    static void about(String what) {
        about = what;
    }

    static void wrong(String message) {
        wrong++;
        if (!about.isEmpty()) {
            System.out.println(about);
            about = "";
        }
        System.out.println("    " + message);
    }

    static void due(String what, long got, long want) {
        if (got != want) {
            wrong(what + " answered " + got + ", due is " + want);
        }
    }

    static void report(String what, ParkingTariff park, int plan, int clause, int code, int number) {
        due(what + " reportLevels()", park.reportLevels(), 3);
        due(what + " reportCode(0)", park.reportCode(0), 1);
        due(what + " reportNumber(0)", park.reportNumber(0), plan);
        due(what + " reportCode(1)", park.reportCode(1), 2);
        due(what + " reportNumber(1)", park.reportNumber(1), clause);
        due(what + " reportCode(2)", park.reportCode(2), code);
        due(what + " reportNumber(2)", park.reportNumber(2), number);
    }

    static void noReport(String what, ParkingTariff park) {
        due(what + " reportLevels()", park.reportLevels(), 0);
        due(what + " reportCode(0)", park.reportCode(0), ParkingTariff.NONE);
        due(what + " reportNumber(0)", park.reportNumber(0), ParkingTariff.NONE);
    }

    /** The properties of a plan, from the free minutes on. */
    static void plan(String what, ParkingTariff park, int plan, int... properties) {
        for (int i = 0; i < properties.length; i++) {
            due(what + " plan(" + plan + ", " + i + ")", park.plan(plan, i), properties[i]);
        }
    }

    /** The beginning, the price and the length of a band. */
    static void band(String what, ParkingTariff park, int plan, int band, int... properties) {
        for (int i = 0; i < properties.length; i++) {
            due(what + " band(" + plan + ", " + band + ", " + i + ")", park.band(plan, band, i), properties[i]);
        }
    }

    /** That a plan is as all plans are at first. */
    static void firstPlan(String what, ParkingTariff park, int plan) {
        plan(what, park, plan, 0, 0, 0, 2000, 1);
        band(what, park, plan, 0, 0, 100, 60);
        due(what + " no second band", park.band(plan, 1, 0), ParkingTariff.NONE);
    }

    /** The properties of a ticket, from the plan on. */
    static void ticket(String what, ParkingTariff park, int ticket, int... properties) {
        for (int i = 0; i < properties.length; i++) {
            due(what + " ticket(" + ticket + ", " + i + ")", park.ticket(ticket, i), properties[i]);
        }
    }

    static void rate(String what, ParkingTariff park, int level, float want) {
        due(what + " level(" + level + ", 2)", park.level(level, 2), Float.floatToIntBits(want));
    }

    static void score(String what, ParkingTariff park, int level, float want) {
        due(what + " level(" + level + ", 3)", park.level(level, 3), Float.floatToIntBits(want));
    }

    static void end() {
        System.out.println(wrong == 0 ? "all answers are as due" : wrong + " answers are not as due");
        if (wrong != 0) {
            System.exit(1);
        }
    }
}
