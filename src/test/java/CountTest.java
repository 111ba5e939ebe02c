/** Promise 26: the counts and the accounts. */
public final class CountTest {
    public static void main(String[] args) {
        ParkingTariff park = new ParkingTariff();
        for (int wrong : new int[] {-1, 12, Integer.MIN_VALUE, Integer.MAX_VALUE}) {
            Checks.due("count(" + wrong + ")", park.count(wrong), ParkingTariff.BAD_ARGUMENT);
        }
        for (int plan = 0; plan < 4; plan++) {
            Checks.read(park, plan, "lost 7;band 0," + (plan + 1) * 10 + ",60");
            park.enter(plan);
            park.enter(plan);
        }
        counts("entered", park, 0, 8, 0, 8, 0, 0, 0, 0, 0, 0, 0, 0);
        park.advance(61);
        for (int ticket = 0; ticket < 7; ticket++) {
            park.pay(ticket);
        }
        counts("paid", park, 61, 8, 0, 8, 320, 40, 80, 120, 80, 0, 0, 0);
        park.leave(0);
        park.leave(2);
        park.leave(7);
        counts("left", park, 61, 8, 2, 6, 320, 40, 80, 120, 80, 0, 0, 0);
        park.lose(1);
        park.lose(7);
        park.leave(1);
        park.addVoucher(0, 1);
        park.append(97, 12);
        counts("lost", park, 61, 8, 3, 5, 320, 40, 80, 120, 80, 2, 1, 12);
        park.advance(60);
        park.pay(3);
        Checks.read(park, 1, "days");
        counts("a new plan leaves the accounts", park, 121, 8, 3, 5, 340, 40, 100, 120, 80, 2, 1, 0);
        park.leave(3);
        counts("left again", park, 121, 8, 4, 4, 340, 40, 100, 120, 80, 2, 1, 0);
        manyTickets();
        Checks.end();
    }

    /** As many cars as calls allow. */
    private static void manyTickets() {
        ParkingTariff park = new ParkingTariff();
        for (int i = 0; i < 255; i++) {
            Checks.due("enter", park.enter(i % 4), i);
            Checks.due("leave", park.leave(i), 0);
        }
        Checks.due("entered", park.count(1), 255);
        Checks.due("left", park.count(2), 255);
    }

    private static void counts(String what, ParkingTariff park, int... wanted) {
        for (int i = 0; i < wanted.length; i++) {
            Checks.due(what + ": count(" + i + ")", park.count(i), wanted[i]);
        }
    }
}
