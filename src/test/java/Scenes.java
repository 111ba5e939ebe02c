/** Parks in which much has happened, and all that can be asked of a park. */
final class Scenes {
    private Scenes() {
    }

    /** Two plans, six tickets (2 and 4 have left, 1 is lost), three vouchers and two folders; 84 calls. */
    static ParkingTariff busyPark() {
        ParkingTariff park = new ParkingTariff();
        Parks.read(park, 1, "free 5;cap 800;days;lost 44;band 0,10,20;band 600,20,30");
        park.addVoucher(2, 5);
        park.addVoucher(1, 50);
        park.addVoucher(0, 15);
        park.makeFolder(0, -1, 3);
        park.put(0, 1, 1);
        park.makeFolder(1, 2, 2);
        park.put(1, 0, 0);
        park.setCapacity(3, 7);
        for (int plan : new int[] {1, 0, 0, 1, 2, 3}) {
            park.enter(plan);
        }
        park.give(0, 0, 1);
        park.leave(2);
        park.advance(60);
        park.lose(1);
        park.pay(1);
        park.pay(3);
        park.pay(4);
        park.leave(4);
        park.advance(5);
        return park;
    }

    /** Asks for nearly everything that a busy park can tell; 206 calls. */
    static String everything(ParkingTariff park) {
        StringBuilder all = new StringBuilder("plans");
        for (int plan = 0; plan < 4; plan++) {
            for (int what = 0; what < 5; what++) {
                all.append(' ').append(park.plan(plan, what));
            }
            all.append(' ').append(park.band(plan, 0, 1)).append(' ').append(park.band(plan, 1, 0));
        }
        all.append("\nlevels");
        for (int level = 0; level < 4; level++) {
            for (int what = 0; what < 6; what++) {
                all.append(' ').append(park.level(level, what));
            }
        }
        all.append("\nvouchers");
        for (int voucher = 0; voucher < 4; voucher++) {
            for (int what = 0; what < 3; what++) {
                all.append(' ').append(park.voucher(voucher, what));
            }
        }
        all.append("\nfolders");
        for (int place = 0; place < 15; place++) {
            all.append(' ').append(park.inFolder(place / 5, place % 5));
        }
        all.append("\ntickets");
        for (int ticket = 0; ticket < 7; ticket++) {
            for (int what = 0; what < 8; what++) {
                all.append(' ').append(park.ticket(ticket, what));
            }
            all.append(' ').append(park.due(ticket, 2000)).append(' ').append(park.step(ticket, 0));
            all.append(' ').append(park.step(ticket, 1)).append(';');
        }
        all.append("\ncounts");
        for (int what = 0; what < 12; what++) {
            all.append(' ').append(park.count(what));
        }
        all.append("\nreport ").append(park.reportLevels());
        for (int level = 0; level < 3; level++) {
            all.append(' ').append(park.reportCode(level)).append(' ').append(park.reportNumber(level));
        }
        return all.toString();
    }

    static void same(String what, String got, String want) {
        if (!got.equals(want)) {
            Checks.wrong(what + " is" + System.lineSeparator() + got + System.lineSeparator() + "due is"
                    + System.lineSeparator() + want);
        }
    }

    /** Calls everything but readPlan, with success where there can be one, and with faults. */
    static void everyOtherCall(ParkingTariff park) {
        park.append('a', 90);
        park.append('a', 1);
        park.append(-1, 1);
        park.save();
        park.plan(0, 0);
        park.plan(9, 0);
        park.band(0, 0, 0);
        park.band(0, 9, 0);
        park.fee(0, 0, 1);
        park.fee(0, 1, 0);
        park.unit(0, 0, 0, 0);
        park.unit(0, 0, 0, 9);
        park.extend(0, 0, 1);
        park.extend(0, 1, 0);
        park.addVoucher(0, 1);
        park.addVoucher(9, 1);
        park.voucher(0, 0);
        park.voucher(9, 0);
        park.makeFolder(0, 0, 1);
        park.makeFolder(9, 0, 1);
        park.put(0, 0, 0);
        park.put(9, 0, 0);
        park.inFolder(0, 0);
        int ticket = park.enter(0);
        park.enter(9);
        park.give(ticket, 0, 0);
        park.give(ticket, 9, 0);
        park.due(ticket, 99999);
        park.due(ticket, -1);
        park.advance(61);
        park.advance(0);
        park.leave(ticket);
        park.step(ticket, 0);
        park.lose(ticket);
        park.step(ticket, 0);
        park.pay(ticket);
        park.ticket(ticket, 0);
        park.ticket(ticket, 9);
        park.leave(ticket);
        park.leave(ticket);
        park.setCapacity(0, 5);
        park.setCapacity(0, 99);
        park.level(0, 3);
        park.level(0, 9);
        park.forecast(0, 600);
        park.forecast(0, 601);
        park.count(0);
        park.count(99);
        park.reportLevels();
        park.reportCode(0);
        park.reportNumber(9);
        park.restore();
    }

    static void twoObjectsShareNothing() {
        ParkingTariff other = new ParkingTariff();
        String before = everything(other);
        ParkingTariff busy = busyPark();
        busy.save();
        Parks.read(busy, 0, "x");
        Parks.write(busy, "free");
        Scenes.same("another object", everything(other), before);
        Checks.due("another object's snapshot", other.restore(), ParkingTariff.NONE);
        Scenes.same("an object that was made later", everything(new ParkingTariff()), before);
    }
}
