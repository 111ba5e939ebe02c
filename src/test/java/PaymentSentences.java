/** What the document says of due amounts, payments and leaving: promises 17 to 19. */
final class PaymentSentences {
    private static final int NONE = ParkingTariff.NONE;
    private static final int BAD_ARGUMENT = ParkingTariff.BAD_ARGUMENT;
    private static final int DUE = ParkingTariff.DUE;
    private static final int LAST = 99999;
    private static final int[] NO_TICKETS = {-1, 1, 40, 512, Integer.MIN_VALUE, Integer.MAX_VALUE};

    private PaymentSentences() {
    }

    static void run() {
        dueAmount();
        leaving();
        due();
        pay();
        leave();
    }

    private static void dueAmount() {
        Section section = Section.of("Description");
        section.holds("The due amount of a ticket at a minute e is the fee of the stay from its entry to e"
                + " by its plan with its vouchers,", () -> {
            ParkingTariff park = Parks.withVouchers(1, 50);
            Parks.read(park, 3, "free 5;band 0,30,20");
            park.advance(100);
            park.enter(3);
            park.enter(0);
            park.give(1, 0, 0);
            Checks.due("at the entry", park.due(0, 100), 0);
            Checks.due("within its free minutes", park.due(0, 105), 0);
            Checks.due("behind them", park.due(0, 106), 30);
            Checks.due("the second unit", park.due(0, 121), 60);
            Checks.due("by another plan with a voucher", park.due(1, 161), 100);
        });
        section.holds("minus what was paid for it, but at least 0.", () -> {
            ParkingTariff park = Parks.withCar(60);
            Checks.due("the fee", park.pay(0), 100);
            Checks.due("the same fee", park.due(0, 60), 0);
            Checks.due("a greater fee", park.due(0, 61), 100);
            Parks.read(park, 0, "band 0,30,60");
            Checks.due("a lesser fee", park.due(0, 60), 0);
            Checks.due("one that is just greater", park.due(0, 181), 20);
            Parks.read(park, 0, "band 0,0,60;lost 99");
            Checks.due("a lost fee that is lesser", park.lose(0), 0);
            Parks.read(park, 0, "band 0,0,60;lost 101");
            Checks.due("a lost fee that is just greater", park.due(0, 60), 1);
        });
    }

    private static void leaving() {
        Section section = Section.of("Description");
        section.holds("A car can leave if the due amount is 0,", () -> {
            ParkingTariff park = Parks.withCar(0);
            park.enter(0);
            Checks.due("at once", park.leave(0), 0);
            Parks.read(park, 0, "band 0,1,60");
            park.advance(1);
            Checks.due("a cent is due", park.leave(1), DUE);
            Parks.read(park, 0, "free 1");
            Checks.due("a free stay", park.leave(1), 0);
            ParkingTariff late = Parks.withCar(1);
            late.pay(0);
            late.advance(59);
            Checks.due("paid 59 minutes ago, and nothing is due", late.leave(0), 100);
        });
        section.holds("or if the latest payment of more than 0 for its ticket was at most 15 minutes ago.", () -> {
            leavingAfterAPayment();
            leavingAfterSmallPayments();
        });
    }

    private static void leavingAfterAPayment() {
        ParkingTariff park = Parks.withCar(60);
        park.enter(0);
        park.pay(0);
        park.advance(15);
        Checks.due("there is something due", park.due(0, 75), 100);
        Checks.due("another ticket", park.leave(1), DUE);
        Checks.due("15 minutes ago", park.leave(0), 100);
        ParkingTariff soon = Parks.withCar(60);
        soon.pay(0);
        soon.advance(1);
        Checks.due("there is something due", soon.due(0, 61), 100);
        Checks.due("1 minute ago", soon.leave(0), 100);
        ParkingTariff later = Parks.withCar(60);
        later.pay(0);
        later.advance(59);
        later.pay(0);
        later.advance(15);
        Checks.due("there is something due", later.due(0, 134), 100);
        Checks.due("74 minutes ago, and again 15 minutes ago", later.leave(0), 200);
        ParkingTariff late = Parks.withCar(60);
        late.pay(0);
        late.advance(16);
        Checks.due("16 minutes ago", late.leave(0), DUE);
    }

    private static void leavingAfterSmallPayments() {
        ParkingTariff nothing = Parks.withCar(45);
        nothing.pay(0);
        nothing.advance(10);
        Checks.due("a payment of nothing", nothing.pay(0), 0);
        nothing.advance(6);
        Checks.due("16 minutes after the one that counts", nothing.leave(0), DUE);
        ParkingTariff early = Parks.withCar(0);
        early.pay(0);
        early.advance(1);
        Checks.due("a payment of nothing alone", early.leave(0), DUE);
        ParkingTariff cent = Parks.withCar(0);
        Parks.read(cent, 0, "band 0,1,5");
        cent.advance(5);
        Checks.due("a payment of 1", cent.pay(0), 1);
        cent.advance(15);
        Checks.due("15 minutes after a payment of 1", cent.leave(0), 1);
        ParkingTariff now = Parks.withCar(60);
        now.pay(0);
        Parks.read(now, 0, "band 0,101,60");
        Checks.due("there is something due", now.due(0, 60), 1);
        Checks.due("in the minute of the payment", now.leave(0), 100);
        ParkingTariff lost = Parks.withCar(60);
        lost.pay(0);
        lost.lose(0);
        lost.advance(15);
        Checks.due("paid, then lost: there is something due", lost.due(0, 75), 1900);
        Checks.due("paid, then lost", lost.leave(0), 100);
    }

    private static void due() {
        Section section = Section.of("Promise 17: due");
        section.holds("Returns the due amount of a ticket of a car inside at a minute.", () -> {
            ParkingTariff park = Parks.withCar(0);
            Checks.due("no minute", park.due(0, 0), 0);
            Checks.due("one minute", park.due(0, 1), 100);
            Checks.due("asked again", park.due(0, 1), 100);
            Checks.due("nothing was paid", park.ticket(0, 3), 0);
        });
        section.tells("`ticket`: the ticket");
        section.holds("`minute`: the minute, from the present one to 99999", () -> {
            ParkingTariff park = Parks.withCar(61);
            Checks.due("the present one", park.due(0, 61), 200);
            Checks.due("the last one", park.due(0, LAST), 166700);
            ParkingTariff last = Parks.withCar(LAST);
            Checks.due("the present one is the last one", last.due(0, LAST), 166700);
        });
        section.holds("Returns the due amount;", () -> {
            ParkingTariff park = Parks.withGiven(1, 33, 2, 7);
            park.advance(61);
            Checks.due("with vouchers", park.due(0, 61), 127);
            Checks.due("paid", park.pay(0), 127);
            Checks.due("the third unit", park.due(0, 121), 194 - 127);
        });
        section.holds("NONE if there is no such ticket of a car inside;", () -> {
            ParkingTariff park = Parks.withCar(0);
            for (int ticket : NO_TICKETS) {
                Checks.due("due(" + ticket + ", 0)", park.due(ticket, 0), NONE);
            }
            park.leave(0);
            Checks.due("its car has left", park.due(0, 0), NONE);
        });
        section.holds("BAD_ARGUMENT if minute is out of range.", () -> {
            ParkingTariff park = Parks.withCar(61);
            for (int minute : new int[] {60, 0, -1, LAST + 1, Integer.MIN_VALUE, Integer.MAX_VALUE}) {
                Checks.due("due(0, " + minute + ")", park.due(0, minute), BAD_ARGUMENT);
            }
        });
    }

    private static void pay() {
        Section section = Section.of("Promise 18: pay");
        section.holds("Pays the due amount of a ticket of a car inside.", () -> {
            ParkingTariff park = Parks.withCar(61);
            park.enter(0);
            park.pay(0);
            Checks.due("nothing is due", park.due(0, 61), 0);
            Checks.due("what was paid", park.ticket(0, 3), 200);
            Checks.due("its minute", park.ticket(0, 7), 61);
            Checks.due("for another ticket", park.ticket(1, 3), 0);
            park.advance(60);
            park.pay(0);
            Checks.due("altogether", park.ticket(0, 3), 300);
            Checks.due("the minute of the latest one", park.ticket(0, 7), 121);
            Checks.due("the account", park.count(4), 300);
        });
        section.tells("`ticket`: the ticket");
        section.holds("Returns the amount paid now, possibly 0;", () -> {
            ParkingTariff park = Parks.withCar(0);
            Checks.due("nothing is due", park.pay(0), 0);
            park.advance(61);
            Checks.due("two units", park.pay(0), 200);
            Checks.due("nothing is left", park.pay(0), 0);
            park.advance(60);
            Checks.due("the third unit", park.pay(0), 100);
            park.lose(0);
            Checks.due("the rest of the lost fee", park.pay(0), 1700);
        });
        section.holds("NONE if there is no such ticket of a car inside.", () -> {
            ParkingTariff park = Parks.withCar(1);
            for (int ticket : NO_TICKETS) {
                Checks.due("pay(" + ticket + ")", park.pay(ticket), NONE);
            }
            park.pay(0);
            park.leave(0);
            park.advance(60);
            Checks.due("its car has left", park.pay(0), NONE);
            Checks.due("the account", park.count(4), 100);
        });
    }

    private static void leave() {
        Section section = Section.of("Promise 19: leave");
        section.holds("Lets a car leave.", () -> {
            ParkingTariff park = Parks.withCar(0);
            park.enter(0);
            park.leave(1);
            Checks.due("it has left", park.ticket(1, 5), 1);
            Checks.due("the other one is inside", park.ticket(0, 5), 0);
            Checks.due("cars on its level", park.level(1, 1), 0);
            Checks.due("cars that left its level", park.level(1, 4), 1);
            Checks.due("cars on the other level", park.level(0, 1), 1);
            Checks.due("cars that left the other level", park.level(0, 4), 0);
            Checks.due("cars that left", park.count(2), 1);
            Checks.due("cars inside", park.count(3), 1);
        });
        section.tells("`ticket`: the ticket");
        section.holds("Returns what was paid for it altogether;", () -> {
            ParkingTariff park = Parks.withCar(1);
            park.enter(0);
            park.pay(0);
            park.advance(60);
            park.pay(0);
            Checks.due("two payments", park.leave(0), 200);
            park.lose(1);
            park.pay(1);
            Checks.due("the lost fee", park.leave(1), 2000);
            park.enter(0);
            Checks.due("nothing", park.leave(2), 0);
        });
        section.holds("NONE if there is no such ticket of a car inside;", () -> {
            ParkingTariff park = Parks.withCar(0);
            for (int ticket : NO_TICKETS) {
                Checks.due("leave(" + ticket + ")", park.leave(ticket), NONE);
            }
            park.leave(0);
            Checks.due("its car has left", park.leave(0), NONE);
            Checks.due("one car left", park.count(2), 1);
            Checks.due("one car left its level", park.level(0, 4), 1);
        });
        section.holds("DUE if it cannot leave.", () -> {
            ParkingTariff park = Parks.withCar(1);
            Checks.due("not paid", park.leave(0), DUE);
            Checks.due("it is inside", park.ticket(0, 5), 0);
            Checks.due("it has its place", park.level(0, 1), 1);
            Checks.due("none left its level", park.level(0, 4), 0);
            park.pay(0);
            park.advance(60);
            Checks.due("paid an hour ago", park.leave(0), DUE);
            ParkingTariff lost = Parks.withCar(0);
            lost.lose(0);
            Checks.due("lost at once", lost.leave(0), DUE);
        });
    }
}
