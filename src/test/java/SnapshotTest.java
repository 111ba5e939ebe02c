/** Promises 30 and 31: saving everything but the text and the report, and restoring it. */
public final class SnapshotTest {
    public static void main(String[] args) {
        nothingSaved();
        everythingComesBack();
        textAndReportStay();
        replaced();
        restoredAgain();
        laterTicketsAreNew();
        Checks.end();
    }

    private static void nothingSaved() {
        ParkingTariff park = new ParkingTariff();
        park.advance(7);
        Checks.due("nothing saved", park.restore(), ParkingTariff.NONE);
        Checks.due("it changes nothing", park.count(0), 7);
    }

    private static ParkingTariff busyPark() {
        ParkingTariff park = new ParkingTariff();
        Checks.read(park, 1, "free 5;cap 800;days;lost 44;band 0,10,20;band 600,20,30");
        park.addVoucher(2, 5);
        park.addVoucher(1, 50);
        park.makeFolder(0, -1, 3);
        park.put(0, 1, 1);
        park.makeFolder(1, 2, 2);
        park.setCapacity(3, 7);
        park.enter(1);
        park.enter(0);
        park.enter(0);
        park.enter(1);
        park.give(0, 0, 1);
        park.leave(2);
        park.advance(60);
        park.lose(1);
        park.pay(1);
        park.pay(3);
        park.leave(3);
        park.advance(5);
        return park;
    }

    private static void change(ParkingTariff park) {
        Checks.read(park, 1, "lost 3");
        Checks.read(park, 0, "band 0,1,5;band 7,8,9");
        park.give(0, 0, 1);
        park.makeFolder(0, 0, 1);
        park.makeFolder(2, 0, 4);
        park.put(1, 0, 0);
        park.addVoucher(0, 3);
        park.setCapacity(0, 33);
        park.lose(0);
        park.advance(100);
        park.pay(0);
        park.leave(0);
        park.leave(1);
        park.enter(3);
        park.enter(2);
        park.enter(1);
        park.advance(60);
    }

    /** All that can be asked, as one text. */
    private static String all(ParkingTariff park) {
        StringBuilder all = new StringBuilder();
        for (int i = 0; i < 4; i++) {
            for (int what = 0; what < 6; what++) {
                all.append(park.plan(i, what)).append(' ').append(park.level(i, what)).append(' ');
                all.append(park.band(i, what, 0)).append(' ').append(park.band(i, what, 1)).append(' ');
                all.append(park.band(i, what, 2)).append(' ').append(park.inFolder(i, what)).append(' ');
            }
            all.append('\n');
        }
        for (int i = 0; i < 12; i++) {
            for (int what = 0; what < 8; what++) {
                all.append(park.ticket(i, what)).append(' ').append(park.voucher(i, what)).append(' ');
                all.append(park.step(i, what)).append(' ');
            }
            all.append(i == 11 ? 0 : park.count(i)).append(' ').append(park.due(i, 2000)).append('\n');
        }
        return all.toString();
    }

    private static void same(String what, ParkingTariff park, ParkingTariff other) {
        boolean equal = all(park).equals(all(other));
        if (!equal) {
            System.out.println(all(park) + "---\n" + all(other));
        }
        Checks.due(what, equal ? 1 : 0, 1);
    }

    private static void everythingComesBack() {
        ParkingTariff park = busyPark();
        Checks.due("save", park.save(), 65);
        same("saving changes nothing", park, busyPark());
        change(park);
        Checks.due("it is changed", all(park).equals(all(busyPark())) ? 1 : 0, 0);
        Checks.due("restore", park.restore(), 65);
        same("all is back", park, busyPark());
        ParkingTariff other = busyPark();
        change(park);
        change(other);
        same("and goes on as before", park, other);
        park.restore();
        Checks.due("a folder for all kinds", park.put(0, 0, 0), 2);
        Checks.due("a folder for one kind", park.put(1, 0, 1), ParkingTariff.WRONG_KIND);
        Checks.due("a folder that was not made", park.put(2, 0, 0), ParkingTariff.NONE);
    }

    private static void textAndReportStay() {
        ParkingTariff park = new ParkingTariff();
        Checks.write(park, "cap");
        park.save();
        Checks.write(park, " 5");
        park.restore();
        Checks.due("the text stays", park.count(11), 5);
        Checks.due("it is read", park.readPlan(0), 1);
        Checks.due("its cap", park.plan(0, 1), 5);
        park.restore();
        Checks.due("the cap is gone", park.plan(0, 1), 0);
        Checks.due("the text is still empty", park.count(11), 0);
        Checks.read(park, 3, "free 61");
        park.restore();
        Checks.report("the report stays", park, 3, 0, 4, 61);
    }

    private static void replaced() {
        ParkingTariff park = new ParkingTariff();
        park.save();
        park.advance(10);
        Checks.due("the later one", park.save(), 10);
        park.advance(10);
        Checks.due("restore", park.restore(), 10);
        Checks.due("the clock", park.count(0), 10);
    }

    private static void restoredAgain() {
        ParkingTariff park = busyPark();
        park.save();
        for (int i = 0; i < 3; i++) {
            change(park);
            Checks.due("restore", park.restore(), 65);
            same("again", park, busyPark());
        }
    }

    private static void laterTicketsAreNew() {
        ParkingTariff park = busyPark();
        park.save();
        park.enter(2);
        park.give(4, 0, 1);
        park.advance(60);
        park.lose(4);
        park.pay(4);
        park.leave(4);
        park.addVoucher(3, 9);
        park.restore();
        Checks.due("no ticket 4", park.ticket(4, 0), ParkingTariff.NONE);
        Checks.due("no voucher 2", park.voucher(2, 0), ParkingTariff.NONE);
        Checks.due("the next ticket", park.enter(3), 4);
        Checks.ticket("it is new", park, 4, 3, 65, 2, 0, 0, 0, 0, -1);
        Checks.due("the next voucher", park.addVoucher(0, 1), 2);
        Checks.due("its kind", park.voucher(2, 0), 0);
        Checks.due("it was never given", park.voucher(2, 2), 0);
    }
}
