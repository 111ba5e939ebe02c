/** Promises 14 to 21: tickets, from entering to leaving. */
public final class TicketTest {
    private static final int NONE = ParkingTariff.NONE;
    private static final int BAD_ARGUMENT = ParkingTariff.BAD_ARGUMENT;
    private static final int FULL = ParkingTariff.FULL;
    private static final int STATE = ParkingTariff.STATE;
    private static final int DUE = ParkingTariff.DUE;
    private static final int[] NO_TICKETS = {-1, 1, 512, Integer.MIN_VALUE, Integer.MAX_VALUE};

    public static void main(String[] args) {
        enter();
        enterTheBestLevel();
        fortyInside();
        give();
        lose();
        loseFreeStay();
        due();
        dueByNewPlan();
        pay();
        leave();
        leaveAfterPayment();
        ticket();
        step();
        vouchersInOrder();
        minutesVouchers();
        roundings();
        noSuchTicket();
        Checks.end();
    }

    private static void enter() {
        ParkingTariff park = new ParkingTariff();
        Checks.due("enter(-1)", park.enter(-1), BAD_ARGUMENT);
        Checks.due("enter(4)", park.enter(4), BAD_ARGUMENT);
        Checks.due("no car yet", park.count(1), 0);
        Checks.due("the first car", park.enter(3), 0);
        park.advance(77);
        Checks.due("the second car", park.enter(1), 1);
        Checks.ticket("first", park, 0, 3, 0, 0, 0, 0, 0, 0, -1);
        Checks.ticket("second", park, 1, 1, 77, 1, 0, 0, 0, 0, -1);
        park.leave(1);
        Checks.due("numbers go on", park.enter(2), 2);
        for (int level = 0; level < 4; level++) {
            park.setCapacity(level, park.level(level, 1));
        }
        Checks.due("no place", park.enter(0), FULL);
        Checks.due("a wrong plan is told first", park.enter(4), BAD_ARGUMENT);
        Checks.due("three cars", park.count(1), 3);
    }

    private static void enterTheBestLevel() {
        ParkingTariff park = new ParkingTariff();
        park.setCapacity(0, 0);
        park.setCapacity(1, 2);
        park.setCapacity(2, 4);
        park.setCapacity(3, 4);
        int[] levels = {1, 2, 3, 2, 3, 1, 2, 3, 2, 3};
        for (int i = 0; i < levels.length; i++) {
            park.enter(0);
            Checks.due("level of car " + i, park.ticket(i, 2), levels[i]);
        }
        Checks.due("all full", park.enter(0), FULL);
        Checks.due("leave", park.leave(5), 0);
        park.advance(60);
        Checks.due("one free, rate 0.25", park.level(1, 3), Float.floatToIntBits((1 + 0.25f * 0.5f) / 2));
        park.enter(0);
        Checks.due("the only free place", park.ticket(10, 2), 1);
        rateSteers();
    }

    /** A level from which cars leave is better than an equal one with a lower number. */
    private static void rateSteers() {
        ParkingTariff park = new ParkingTariff();
        park.setCapacity(0, 0);
        park.setCapacity(1, 0);
        park.leave(park.enter(0));
        park.setCapacity(0, 10);
        park.setCapacity(1, 10);
        Checks.due("before the full hour", park.ticket(park.enter(0), 2), 0);
        park.leave(1);
        park.advance(60);
        park.setCapacity(0, 0);
        Checks.due("by its rate", park.ticket(park.enter(0), 2), 2);
        Checks.due("the lowest number", park.ticket(park.enter(0), 2), 1);
    }

    private static void fortyInside() {
        ParkingTariff park = new ParkingTariff();
        park.setCapacity(0, 40);
        for (int i = 0; i < 40; i++) {
            Checks.due("car", park.enter(0), i);
        }
        Checks.due("the level is not full", park.level(0, 0) - park.level(0, 1) > 0 ? 1 : 0, 1);
        Checks.due("the 41st", park.enter(0), FULL);
        Checks.due("no more inside", park.count(3), 40);
        Checks.due("one leaves", park.leave(17), 0);
        Checks.due("another comes", park.enter(0), 40);
        Checks.due("full again", park.enter(0), FULL);
    }

    private static ParkingTariff withVouchers() {
        ParkingTariff park = new ParkingTariff();
        park.addVoucher(0, 30);
        park.addVoucher(1, 50);
        park.addVoucher(2, 40);
        park.addVoucher(3, 90);
        park.makeFolder(0, -1, 5);
        for (int i = 0; i < 4; i++) {
            park.put(0, i, i);
        }
        return park;
    }

    private static void give() {
        ParkingTariff park = withVouchers();
        park.enter(0);
        Checks.due("an empty place", park.give(0, 0, 4), NONE);
        Checks.due("no such place", park.give(0, 0, 5), NONE);
        Checks.due("place -1", park.give(0, 0, -1), NONE);
        Checks.due("a folder that is not made", park.give(0, 1, 0), NONE);
        Checks.due("no such folder", park.give(0, 3, 0), NONE);
        for (int i = 1; i <= 4; i++) {
            Checks.due("voucher " + i, park.give(0, 0, 2), i);
            Checks.due("it stays there", park.inFolder(0, 2), 2);
        }
        Checks.due("a fifth one", park.give(0, 0, 2), FULL);
        Checks.due("none is told first", park.give(0, 0, 4), NONE);
        Checks.due("four vouchers", park.ticket(0, 4), 4);
        Checks.due("given four times", park.voucher(2, 2), 4);
        park.lose(0);
        Checks.due("lost is told before full", park.give(0, 0, 2), STATE);
        Checks.due("none is told before lost", park.give(0, 0, 4), NONE);
        park.enter(0);
        park.lose(1);
        Checks.due("lost", park.give(1, 0, 2), STATE);
        Checks.due("no voucher", park.ticket(1, 4), 0);
        park.makeFolder(0, 0, 1);
        park.enter(0);
        Checks.due("the folder is empty now", park.give(2, 0, 0), NONE);
        Checks.due("given four times still", park.voucher(2, 2), 4);
    }

    private static void lose() {
        ParkingTariff park = withVouchers();
        park.enter(0);
        park.give(0, 0, 1);
        park.advance(61);
        Checks.due("half of it", park.due(0, 61), 100);
        Checks.due("pay", park.pay(0), 100);
        Checks.due("the lost fee, less what was paid", park.lose(0), 1900);
        Checks.due("lost", park.ticket(0, 6), 1);
        Checks.due("lost again", park.lose(0), STATE);
        Checks.due("before the fee grows", park.due(0, 1200), 1900);
        Checks.due("the fee is greater then", park.due(0, 1201), 2000);
        Checks.due("without vouchers", park.due(0, 6000), 9900);
        Checks.due("pay", park.pay(0), 1900);
        Checks.due("lost tickets", park.count(9), 1);
        Checks.due("leave", park.leave(0), 2000);
        Checks.due("lost tickets stay", park.count(9), 1);
        Checks.due("lost, but left", park.ticket(0, 6), 1);
    }

    private static void loseFreeStay() {
        ParkingTariff park = new ParkingTariff();
        Checks.read(park, 1, "free 60;lost 333");
        park.enter(1);
        Checks.due("while it costs nothing", park.lose(0), 333);
        Checks.due("cannot leave", park.leave(0), DUE);
        Checks.due("pay", park.pay(0), 333);
        Checks.due("leave", park.leave(0), 333);
        Checks.read(park, 1, "lost 0");
        park.enter(1);
        Checks.due("no lost fee", park.lose(1), 0);
        Checks.due("leave", park.leave(1), 0);
        Checks.due("two lost tickets", park.count(9), 2);
    }

    private static void due() {
        ParkingTariff park = new ParkingTariff();
        park.advance(30);
        park.enter(0);
        Checks.due("nothing yet", park.due(0, 30), 0);
        Checks.due("the past", park.due(0, 29), BAD_ARGUMENT);
        Checks.due("minute -1", park.due(0, -1), BAD_ARGUMENT);
        Checks.due("too late", park.due(0, 100000), BAD_ARGUMENT);
        Checks.due("the last minute", park.due(0, 99999), 166700);
        Checks.due("no ticket is told first", park.due(1, 29), NONE);
        park.advance(1);
        Checks.due("the present one", park.due(0, 31), 100);
        Checks.due("the one before", park.due(0, 30), BAD_ARGUMENT);
        park.pay(0);
        Checks.due("it is paid", park.due(0, 90), 0);
        Checks.due("the second unit", park.due(0, 91), 100);
    }

    private static void dueByNewPlan() {
        ParkingTariff park = new ParkingTariff();
        park.enter(2);
        park.advance(60);
        Checks.due("by the first plan", park.pay(0), 100);
        Checks.read(park, 2, "band 0,30,60");
        Checks.due("never below 0", park.due(0, 60), 0);
        Checks.due("less what was paid", park.due(0, 300), 50);
        Checks.read(park, 2, "band 0,301,60");
        Checks.due("by the new plan", park.due(0, 60), 201);
        Checks.due("pay", park.pay(0), 201);
        Checks.due("altogether", park.ticket(0, 3), 301);
    }

    private static void pay() {
        ParkingTariff park = new ParkingTariff();
        park.enter(0);
        Checks.due("nothing to pay", park.pay(0), 0);
        Checks.due("that is no payment", park.ticket(0, 7), -1);
        park.advance(61);
        Checks.due("two units", park.pay(0), 200);
        Checks.due("nothing is left", park.pay(0), 0);
        Checks.due("its minute", park.ticket(0, 7), 61);
        park.advance(59);
        Checks.due("nothing new", park.pay(0), 0);
        Checks.due("its minute stays", park.ticket(0, 7), 61);
        park.advance(1);
        Checks.due("one more", park.pay(0), 100);
        Checks.due("its minute is new", park.ticket(0, 7), 121);
        Checks.due("what was paid", park.ticket(0, 3), 300);
        park.leave(0);
        Checks.due("it has left", park.pay(0), NONE);
    }

    private static void leave() {
        ParkingTariff park = new ParkingTariff();
        park.enter(0);
        park.enter(0);
        Checks.due("at once", park.leave(0), 0);
        Checks.due("left", park.ticket(0, 5), 1);
        Checks.due("not twice", park.leave(0), NONE);
        park.advance(1);
        Checks.due("not paid", park.leave(1), DUE);
        Checks.due("still inside", park.ticket(1, 5), 0);
        Checks.due("the place is taken", park.level(1, 1), 1);
        park.pay(1);
        Checks.due("paid", park.leave(1), 100);
        Checks.due("the place is free", park.level(1, 1), 0);
        Checks.due("none inside", park.count(3), 0);
    }

    private static void leaveAfterPayment() {
        ParkingTariff park = new ParkingTariff();
        park.enter(0);
        park.enter(0);
        park.advance(60);
        park.pay(0);
        park.pay(1);
        park.advance(15);
        Checks.due("there is something due", park.due(0, 75), 100);
        Checks.due("15 minutes ago", park.leave(0), 100);
        park.advance(1);
        Checks.due("16 minutes ago", park.leave(1), DUE);
        Checks.due("pay again", park.pay(1), 100);
        Checks.due("nothing more", park.pay(1), 0);
        park.advance(44);
        Checks.due("44 minutes ago, but nothing is due", park.leave(1), 200);
        park.enter(0);
        park.advance(10);
        park.pay(2);
        park.lose(2);
        Checks.due("paid and then lost", park.due(2, 130), 1900);
        Checks.due("may leave all the same", park.leave(2), 100);
        paymentOfNothing();
    }

    /** A payment of 0 lets nobody leave. */
    private static void paymentOfNothing() {
        ParkingTariff park = new ParkingTariff();
        park.enter(0);
        park.pay(0);
        park.advance(1);
        Checks.due("paid nothing", park.leave(0), DUE);
        Checks.read(park, 0, "band 0,1,5");
        Checks.due("a cent is due", park.leave(0), DUE);
        Checks.due("pay it", park.pay(0), 1);
        Checks.due("that is a payment", park.ticket(0, 7), 1);
        park.enter(0);
        park.advance(1);
        Checks.read(park, 0, "band 0,0,5");
        Checks.due("nothing due", park.leave(1), 0);
    }

    private static void ticket() {
        ParkingTariff park = withVouchers();
        park.advance(9);
        park.enter(0);
        park.enter(3);
        park.give(1, 0, 2);
        park.advance(1);
        park.pay(1);
        park.lose(1);
        Checks.ticket("inside", park, 1, 3, 9, 1, 60, 1, 0, 1, 10);
        park.leave(1);
        Checks.ticket("left", park, 1, 3, 9, 1, 60, 1, 1, 1, 10);
        Checks.ticket("the other one", park, 0, 0, 9, 0, 0, 0, 0, 0, -1);
        Checks.due("what -1", park.ticket(0, -1), BAD_ARGUMENT);
        Checks.due("what 8", park.ticket(0, 8), BAD_ARGUMENT);
        Checks.due("no ticket is told first", park.ticket(2, 8), NONE);
    }

    private static void step() {
        ParkingTariff park = withVouchers();
        park.enter(0);
        park.enter(0);
        park.give(0, 0, 1);
        park.give(0, 0, 0);
        park.give(0, 0, 2);
        park.advance(200);
        Checks.due("without vouchers", park.step(1, 0), 400);
        Checks.due("no step 1", park.step(1, 1), NONE);
        Checks.due("the shortened stay", park.step(0, 0), 300);
        Checks.due("half", park.step(0, 1), 150);
        Checks.due("less 40", park.step(0, 2), 110);
        Checks.due("minutes are no step", park.step(0, 3), NONE);
        Checks.due("step -1", park.step(0, -1), NONE);
        Checks.due("step MAX", park.step(0, Integer.MAX_VALUE), NONE);
        park.pay(0);
        Checks.due("what was paid does not count", park.step(0, 2), 110);
        park.lose(0);
        Checks.due("lost", park.step(0, 2), STATE);
        Checks.due("no such step is told first", park.step(0, 3), NONE);
        park.lose(1);
        Checks.due("lost, without vouchers", park.step(1, 0), STATE);
        Checks.due("no such step is told first", park.step(1, 1), NONE);
    }

    private static void vouchersInOrder() {
        int[][] orders = {{1, 2, 3, 3}, {2, 1, 3, 3}, {3, 1, 2, 2}, {3, 2, 1, 1}, {1, 1, 1, 2}};
        int[] amounts = {90, 90, 0, 13, 10};
        for (int i = 0; i < orders.length; i++) {
            ParkingTariff park = withVouchers();
            park.enter(0);
            for (int place : orders[i]) {
                park.give(0, 0, place);
            }
            park.advance(200);
            Checks.due("order " + i, park.due(0, 200), amounts[i]);
            Checks.due("the last step of order " + i, park.step(0, 4), amounts[i]);
        }
    }

    private static void minutesVouchers() {
        ParkingTariff park = withVouchers();
        Checks.read(park, 0, "free 10");
        park.enter(0);
        for (int i = 0; i < 3; i++) {
            park.give(0, 0, 0);
        }
        park.give(0, 0, 2);
        Checks.due("before the shortened stay begins", park.due(0, 89), 0);
        Checks.due("as it begins", park.due(0, 90), 0);
        Checks.due("its free minutes", park.due(0, 100), 0);
        Checks.due("behind them", park.due(0, 101), 60);
        Checks.due("the second unit", park.due(0, 151), 160);
        Checks.due("step 0 before it begins", park.step(0, 0), 0);
        Checks.due("cents of nothing", park.step(0, 1), 0);
        Checks.read(park, 0, "cap 150");
        Checks.due("blocks begin later too", park.due(0, 1530), 110);
        Checks.due("the second block", park.due(0, 1531), 210);
        Checks.read(park, 0, "band 0,100,60;band 85,70,60;band 91,50,60");
        Checks.due("the price at the new beginning", park.due(0, 91), 30);
        manyMinutes();
    }

    private static void manyMinutes() {
        ParkingTariff park = new ParkingTariff();
        park.addVoucher(0, 999);
        park.makeFolder(0, 0, 1);
        park.put(0, 0, 0);
        park.enter(0);
        for (int i = 0; i < 4; i++) {
            park.give(0, 0, 0);
        }
        Checks.due("3996 minutes", park.due(0, 3996), 0);
        Checks.due("one more", park.due(0, 3997), 100);
        Checks.moveTo(park, 99999);
        park.enter(0);
        park.give(1, 0, 0);
        Checks.due("beyond the last minute", park.due(1, 99999), 0);
    }

    private static void roundings() {
        ParkingTariff park = new ParkingTariff();
        park.addVoucher(1, 33);
        park.addVoucher(1, 100);
        park.addVoucher(3, 0);
        park.makeFolder(0, -1, 3);
        for (int i = 0; i < 3; i++) {
            park.put(0, i, i);
        }
        Checks.read(park, 0, "band 0,5,60");
        for (int i = 0; i < 3; i++) {
            park.enter(0);
            park.give(i, 0, i);
        }
        park.advance(1);
        Checks.due("5 less 33 percent", park.due(0, 1), 4);
        Checks.due("5 less 100 percent", park.due(1, 1), 0);
        Checks.due("the ceiling 0", park.due(2, 1), 0);
        Checks.read(park, 0, "band 0,999,5");
        Checks.due("a great fee", park.due(0, 99999), 19980000L - 19980000L * 33 / 100);
        Checks.due("a great fee less all of it", park.due(1, 99999), 0);
    }

    private static void noSuchTicket() {
        ParkingTariff park = withVouchers();
        park.enter(0);
        for (int ticket : NO_TICKETS) {
            Checks.due("give " + ticket, park.give(ticket, 0, 0), NONE);
            Checks.due("lose " + ticket, park.lose(ticket), NONE);
            Checks.due("due " + ticket, park.due(ticket, 0), NONE);
            Checks.due("pay " + ticket, park.pay(ticket), NONE);
            Checks.due("leave " + ticket, park.leave(ticket), NONE);
            Checks.due("ticket " + ticket, park.ticket(ticket, 0), NONE);
            Checks.due("step " + ticket, park.step(ticket, 0), NONE);
        }
        park.leave(0);
        Checks.due("give, left", park.give(0, 0, 0), NONE);
        Checks.due("lose, left", park.lose(0), NONE);
        Checks.due("due, left", park.due(0, 0), NONE);
        Checks.due("pay, left", park.pay(0), NONE);
        Checks.due("leave, left", park.leave(0), NONE);
        Checks.due("step, left", park.step(0, 0), NONE);
        Checks.due("voucher 0 was given to nobody", park.voucher(0, 2), 0);
        Checks.due("nothing was lost", park.count(9), 0);
    }
}
