/** Promise 1: what a new object answers. */
public final class NewObjectTest {
    public static void main(String[] args) {
        ParkingTariff park = new ParkingTariff();
        for (int plan = 0; plan < 4; plan++) {
            Checks.firstPlan("new", park, plan);
        }
        for (int level = 0; level < 4; level++) {
            Checks.due("capacity", park.level(level, 0), 10);
            Checks.due("cars", park.level(level, 1), 0);
            Checks.due("rate", park.level(level, 2), 0);
            Checks.due("score", park.level(level, 3), Float.floatToIntBits(1.0f));
            Checks.due("left", park.level(level, 4), 0);
            Checks.due("entered", park.level(level, 5), 0);
            Checks.due("forecast", park.forecast(level, 60), 0);
        }
        for (int what = 0; what < 12; what++) {
            Checks.due("count(" + what + ")", park.count(what), 0);
        }
        for (int folder = 0; folder < 3; folder++) {
            Checks.due("inFolder", park.inFolder(folder, 0), ParkingTariff.NONE);
        }
        Checks.due("ticket(0, 0)", park.ticket(0, 0), ParkingTariff.NONE);
        Checks.due("voucher(0, 0)", park.voucher(0, 0), ParkingTariff.NONE);
        Checks.due("reportLevels", park.reportLevels(), 0);
        Checks.due("reportCode(0)", park.reportCode(0), ParkingTariff.NONE);
        Checks.due("reportNumber(0)", park.reportNumber(0), ParkingTariff.NONE);
        Checks.due("restore", park.restore(), ParkingTariff.NONE);
        twoObjectsShareNothing();
        Checks.end();
    }

    private static void twoObjectsShareNothing() {
        ParkingTariff one = new ParkingTariff();
        ParkingTariff other = new ParkingTariff();
        Checks.read(one, 0, "free 5;band 0,1,5");
        Checks.read(one, 0, "x");
        one.enter(0);
        one.advance(60);
        one.addVoucher(0, 1);
        one.makeFolder(0, 0, 1);
        one.setCapacity(0, 1);
        one.save();
        Checks.firstPlan("the other", other, 0);
        Checks.due("the other's cars", other.count(1), 0);
        Checks.due("the other's minute", other.count(0), 0);
        Checks.due("the other's vouchers", other.count(10), 0);
        Checks.due("the other's capacity", other.level(0, 0), 10);
        Checks.due("the other's report", other.reportLevels(), 0);
        Checks.due("the other's snapshot", other.restore(), ParkingTariff.NONE);
    }
}
