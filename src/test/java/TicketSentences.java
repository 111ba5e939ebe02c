/** What the document says of cars that enter and of their tickets: promises 14, 15, 16, 20 and 21. */
final class TicketSentences {
    private static final int NONE = ParkingTariff.NONE;
    private static final int BAD_ARGUMENT = ParkingTariff.BAD_ARGUMENT;
    private static final int FULL = ParkingTariff.FULL;
    private static final int STATE = ParkingTariff.STATE;
    private static final int[] NO_TICKETS = {-1, 2, 40, 512, Integer.MIN_VALUE, Integer.MAX_VALUE};

    private TicketSentences() {
    }

    static void run() {
        cars();
        levelOfACar();
        lostTickets();
        enter();
        give();
        giveFaults();
        lose();
        ticket();
        ticketFaults();
        step();
        stepFaults();
    }

    /** Two cars entered: ticket 0 is inside, and ticket 1 has left. */
    private static ParkingTariff withOneLeft() {
        ParkingTariff park = Parks.withVouchers(2, 10);
        park.enter(0);
        park.enter(0);
        park.leave(1);
        return park;
    }

    private static void cars() {
        Section section = Section.of("Description");
        section.holds("Tickets are numbered from 0 as cars enter;", () -> {
            ParkingTariff park = new ParkingTariff();
            Checks.due("the first", park.enter(3), 0);
            Checks.due("the second", park.enter(0), 1);
            park.leave(0);
            Checks.due("no number is used again", park.enter(1), 2);
            Checks.due("a car that does not enter takes none", park.enter(4), BAD_ARGUMENT);
            Checks.due("the next", park.enter(1), 3);
        });
        section.holds("at most 40 cars are inside.", () -> {
            ParkingTariff park = new ParkingTariff();
            park.setCapacity(0, 40);
            for (int car = 0; car < 40; car++) {
                Checks.due("a car", park.enter(0), car);
            }
            Checks.due("level 0 still has a free place", park.level(0, 0) > park.level(0, 1) ? 1 : 0, 1);
            Checks.due("the 41st", park.enter(0), FULL);
            Checks.due("40 inside", park.count(3), 40);
            park.leave(17);
            Checks.due("when one has left", park.enter(0), 40);
            Checks.due("again the 41st", park.enter(0), FULL);
        });
    }

    private static void levelOfACar() {
        Section section = Section.of("Description");
        section.holds("A car that enters gets the free place of a level: of all levels with free places,", () -> {
            ParkingTariff park = new ParkingTariff();
            Parks.onlyLevel(park, 3, 10);
            Parks.enterAndLeave(park, 40);
            park.advance(60);
            park.setCapacity(3, 0);
            park.setCapacity(2, 1);
            Checks.due("a level without places, with a rate", park.level(3, 2), Float.floatToIntBits(10.0f));
            Checks.due("the level with a place", park.ticket(park.enter(0), 2), 2);
            park.setCapacity(3, 1);
            Checks.due("the best level", park.ticket(park.enter(0), 2), 3);
            Checks.score("a full level, with a rate", park, 3, 5.0f);
            park.setCapacity(0, 40);
            Checks.score("a level with places", park, 0, 1.0f);
            Checks.due("not the full one, though its score is greater", park.ticket(park.enter(0), 2), 0);
            park.setCapacity(0, 1);
            Checks.due("no level has a free place", park.enter(0), FULL);
        });
        section.holds("the one with the greatest score,", () -> {
            ParkingTariff park = new ParkingTariff();
            park.setCapacity(0, 0);
            park.setCapacity(1, 2);
            park.setCapacity(2, 4);
            park.setCapacity(3, 4);
            int[] levels = {1, 2, 3, 2, 3, 1, 2, 3, 2, 3};
            for (int car = 0; car < levels.length; car++) {
                Checks.due("level of car " + car, park.ticket(park.enter(0), 2), levels[car]);
            }
            ParkingTariff other = new ParkingTariff();
            Parks.onlyLevel(other, 2, 10);
            Parks.enterAndLeave(other, 1);
            other.advance(60);
            other.setCapacity(0, 10);
            Checks.due("by its rate", other.ticket(other.enter(0), 2), 2);
            Checks.due("by its free places", other.ticket(other.enter(0), 2), 0);
        });
        section.holds("of several the one with the lowest number.", () -> {
            ParkingTariff park = new ParkingTariff();
            for (int car = 0; car < 8; car++) {
                Checks.due("level of car " + car, park.ticket(park.enter(0), 2), car % 4);
            }
            park.leave(1);
            park.leave(3);
            Checks.due("of levels 1 and 3", park.ticket(park.enter(0), 2), 1);
            ParkingTariff other = new ParkingTariff();
            Parks.onlyLevel(other, 1, 10);
            Parks.enterAndLeave(other, 1);
            Parks.moveTo(other, 60 * 60);
            other.setCapacity(0, 40);
            Checks.due("level 1 has a rate", other.level(1, 2) > 0 ? 1 : 0, 1);
            Checks.score("which as a float is too small for its score", other, 1, 1.0f);
            Checks.due("of levels 0 and 1", other.ticket(other.enter(0), 2), 0);
        });
    }

    private static void lostTickets() {
        Section section = Section.of("Description");
        section.holds("If it is lost, the fee without vouchers,", () -> {
            ParkingTariff park = Parks.withGiven(0, 100, 1, 50, 2, 40, 3, 0);
            Parks.read(park, 0, "lost 300;band 0,100,60");
            Checks.due("with vouchers", park.due(0, 400), 0);
            park.lose(0);
            Checks.due("without them", park.due(0, 400), 700);
        });
        section.holds("but at least the lost fee,", () -> {
            ParkingTariff park = Parks.withCar(0);
            Parks.read(park, 0, "lost 300;band 0,100,60");
            park.lose(0);
            Checks.due("the lost fee is greater", park.due(0, 120), 300);
            Checks.due("they are equal", park.due(0, 180), 300);
            Checks.due("the fee is greater", park.due(0, 181), 400);
            Parks.read(park, 0, "lost 9999;band 0,100,60");
            Checks.due("the greatest lost fee", park.due(0, 181), 9999);
        });
        section.holds("also while the stay costs nothing, takes the place of the fee.", () -> {
            ParkingTariff park = Parks.withCar(0);
            Parks.read(park, 0, "free 60;lost 300");
            Checks.due("no minute", park.lose(0), 300);
            Checks.due("free minutes", park.due(0, 60), 300);
            ParkingTariff other = Parks.withCar(30);
            Parks.read(other, 0, "lost 300;band 0,0,60");
            Checks.due("units without a price", other.lose(0), 300);
            Checks.due("less what was paid", other.pay(0), 300);
            Checks.due("nothing is left", other.due(0, 30), 0);
        });
    }

    private static void enter() {
        Section section = Section.of("Promise 14: enter");
        section.holds("Lets a car enter at the present minute.", () -> {
            ParkingTariff park = Parks.atMinute(77);
            Checks.due("enter", park.enter(2), 0);
            Checks.ticket("its ticket", park, 0, 2, 77, 0, 0, 0, 0, 0, -1);
            Checks.due("cars on the level", park.level(0, 1), 1);
            ParkingTariff last = Parks.atMinute(99999);
            Checks.due("at the last minute", last.ticket(last.enter(0), 1), 99999);
        });
        section.holds("`plan`: the plan of its ticket, 0 to 3", () -> {
            ParkingTariff park = new ParkingTariff();
            for (int plan = 0; plan < 4; plan++) {
                Checks.due("plan " + plan, park.ticket(park.enter(plan), 0), plan);
            }
        });
        section.holds("Returns the ticket;", () -> {
            ParkingTariff park = new ParkingTariff();
            for (int ticket = 0; ticket < 12; ticket++) {
                Checks.due("the next", park.enter(0), ticket);
            }
        });
        section.holds("BAD_ARGUMENT if there is no such plan;", () -> {
            ParkingTariff park = new ParkingTariff();
            for (int plan : new int[] {-1, 4, Integer.MIN_VALUE, Integer.MAX_VALUE}) {
                Checks.due("enter(" + plan + ")", park.enter(plan), BAD_ARGUMENT);
            }
            Checks.due("no car entered", park.count(1), 0);
            Checks.due("no place is taken", park.level(0, 1), 0);
        });
        section.holds("FULL if 40 cars are inside or no level has a free place.", () -> {
            ParkingTariff park = new ParkingTariff();
            for (int car = 0; car < 40; car++) {
                park.enter(0);
            }
            park.setCapacity(2, 40);
            Checks.due("40 cars are inside", park.enter(0), FULL);
            ParkingTariff other = new ParkingTariff();
            Parks.onlyLevel(other, 1, 2);
            Checks.due("the first", other.enter(0), 0);
            Checks.due("the second", other.enter(0), 1);
            Checks.due("no free place", other.enter(0), FULL);
            Checks.due("two inside", other.count(3), 2);
            other.leave(0);
            Checks.due("one has left", other.enter(0), 2);
            ParkingTariff none = new ParkingTariff();
            Parks.onlyLevel(none, 0, 0);
            Checks.due("no places at all", none.enter(0), FULL);
        });
    }

    private static void give() {
        Section section = Section.of("Promise 15: give");
        section.holds("Gives the ticket of a car inside the voucher in a place of a folder, which stays there.", () -> {
            ParkingTariff park = Parks.withVouchers(2, 10, 2, 20);
            park.enter(0);
            park.enter(0);
            Checks.due("give", park.give(1, 0, 1), 1);
            Checks.due("it stays there", park.inFolder(0, 1), 1);
            Checks.due("its ticket", park.due(1, 1), 80);
            Checks.due("the other ticket", park.due(0, 1), 100);
            Checks.due("given again", park.give(1, 0, 1), 2);
            Checks.due("and to the other ticket", park.give(0, 0, 1), 1);
            park.put(0, 1, 0);
            Checks.due("the ticket keeps what it has", park.due(1, 1), 60);
            park.makeFolder(0, -1, 1);
            Checks.due("also when the folder is made again", park.due(1, 1), 60);
        });
        section.tells("`ticket`: the ticket");
        section.tells("`folder`: the folder");
        section.holds("`place`: the place", () -> {
            ParkingTariff park = Parks.withVouchers(2, 1, 2, 2, 2, 3, 2, 4, 2, 5);
            park.enter(0);
            park.give(0, 0, 4);
            Checks.due("the last place", park.due(0, 1), 95);
            park.give(0, 0, 0);
            Checks.due("the first place", park.due(0, 1), 94);
        });
        section.holds("Returns the number of vouchers of the ticket;", () -> {
            ParkingTariff park = Parks.withVouchers(2, 1);
            park.enter(0);
            for (int number = 1; number <= 4; number++) {
                Checks.due("give", park.give(0, 0, 0), number);
            }
        });
    }

    private static void giveFaults() {
        Section section = Section.of("Promise 15: give");
        section.holds("NONE if there is no such ticket of a car inside, or no voucher there;", () -> {
            ParkingTariff park = withOneLeft();
            park.makeFolder(2, -1, 2);
            for (int ticket : NO_TICKETS) {
                Checks.due("give(" + ticket + ", 0, 0)", park.give(ticket, 0, 0), NONE);
            }
            Checks.due("its car has left", park.give(1, 0, 0), NONE);
            for (int folder : new int[] {-1, 1, 3, Integer.MIN_VALUE, Integer.MAX_VALUE}) {
                Checks.due("give(0, " + folder + ", 0)", park.give(0, folder, 0), NONE);
            }
            for (int place : new int[] {-1, 1, 5, Integer.MIN_VALUE, Integer.MAX_VALUE}) {
                Checks.due("give(0, 0, " + place + ")", park.give(0, 0, place), NONE);
            }
            Checks.due("an empty place", park.give(0, 2, 1), NONE);
            Checks.due("it was never given", park.voucher(0, 2), 0);
            Checks.due("the ticket has none", park.ticket(0, 4), 0);
        });
        section.holds("STATE if the ticket is lost;", () -> {
            ParkingTariff park = withOneLeft();
            park.lose(0);
            Checks.due("give", park.give(0, 0, 0), STATE);
            Checks.due("it was never given", park.voucher(0, 2), 0);
            Checks.due("the ticket has none", park.ticket(0, 4), 0);
        });
        section.holds("FULL if it has 4 vouchers.", () -> {
            ParkingTariff park = Parks.withGiven(2, 1, 2, 2, 2, 3, 0, 4);
            Checks.due("a fifth one", park.give(0, 0, 0), FULL);
            Checks.due("it was given once", park.voucher(0, 2), 1);
            Checks.due("four of them", park.ticket(0, 4), 4);
        });
    }

    private static void lose() {
        Section section = Section.of("Promise 16: lose");
        section.holds("Marks the ticket of a car inside as lost.", () -> {
            ParkingTariff park = withOneLeft();
            park.enter(0);
            park.lose(2);
            Checks.due("ticket 2", park.ticket(2, 6), 1);
            Checks.due("ticket 0", park.ticket(0, 6), 0);
            Checks.due("ticket 1", park.ticket(1, 6), 0);
            Checks.due("lost tickets", park.count(9), 1);
        });
        section.tells("`ticket`: the ticket");
        section.holds("Returns the due amount then;", () -> {
            ParkingTariff park = Parks.withGiven(1, 50);
            park.advance(61);
            Checks.due("pay", park.pay(0), 100);
            Checks.due("the lost fee less what was paid", park.lose(0), 1900);
            ParkingTariff late = Parks.withCar(1201);
            Checks.due("more than the lost fee", late.lose(0), 2100);
            ParkingTariff paid = Parks.withCar(1201);
            paid.pay(0);
            Checks.due("nothing", paid.lose(0), 0);
        });
        section.holds("NONE if there is no such ticket of a car inside;", () -> {
            ParkingTariff park = withOneLeft();
            for (int ticket : NO_TICKETS) {
                Checks.due("lose(" + ticket + ")", park.lose(ticket), NONE);
            }
            Checks.due("its car has left", park.lose(1), NONE);
            Checks.due("none is lost", park.count(9), 0);
            park.lose(0);
            Parks.read(park, 0, "lost 0");
            park.leave(0);
            Checks.due("lost, and its car has left", park.lose(0), NONE);
        });
        section.holds("STATE if it is lost already.", () -> {
            ParkingTariff park = Parks.withCar(0);
            park.lose(0);
            Checks.due("again", park.lose(0), STATE);
            park.pay(0);
            Checks.due("again, and paid", park.lose(0), STATE);
            Checks.due("one is lost", park.count(9), 1);
        });
    }

    private static void ticket() {
        Section section = Section.of("Promise 20: ticket");
        section.holds("Returns a property of a ticket, also of a car that has left.", () -> {
            ParkingTariff park = withOneLeft();
            park.advance(1);
            Checks.ticket("inside", park, 0, 0, 0, 0, 0, 0, 0, 0, -1);
            Checks.ticket("left", park, 1, 0, 0, 1, 0, 0, 1, 0, -1);
        });
        section.tells("`ticket`: the ticket");
        section.holds("`what`: 0 for the plan, 1 for the minute of the entry, 2 for the level, 3 for what was paid,"
                + " 4 for the number of vouchers, 5 for 0 if the car is inside, 1 if it has left,"
                + " 6 for 1 if it is lost, otherwise 0,"
                + " 7 for the minute of the latest payment of more than 0, -1 if there was none", () -> {
            ParkingTariff park = Parks.withVouchers(2, 40);
            park.advance(9);
            park.enter(0);
            park.enter(3);
            park.give(1, 0, 0);
            Checks.ticket("new", park, 1, 3, 9, 1, 0, 1, 0, 0, -1);
            park.pay(1);
            Checks.ticket("paid nothing", park, 1, 3, 9, 1, 0, 1, 0, 0, -1);
            park.advance(1);
            park.pay(1);
            park.lose(1);
            Checks.ticket("paid and lost", park, 1, 3, 9, 1, 60, 1, 0, 1, 10);
            park.advance(5);
            park.pay(1);
            park.advance(5);
            park.pay(1);
            Checks.ticket("paid twice, and once nothing", park, 1, 3, 9, 1, 2000, 1, 0, 1, 15);
            park.leave(1);
            Checks.ticket("left", park, 1, 3, 9, 1, 2000, 1, 1, 1, 15);
            Checks.ticket("the other one", park, 0, 0, 9, 0, 0, 0, 0, 0, -1);
        });
        section.holds("Returns the property;", () -> {
            ParkingTariff park = Parks.withCar(0);
            park.pay(0);
            Checks.due("no payment at minute 0", park.ticket(0, 7), -1);
            park.lose(0);
            park.pay(0);
            Checks.due("a payment at minute 0", park.ticket(0, 7), 0);
        });
    }

    private static void ticketFaults() {
        Section section = Section.of("Promise 20: ticket");
        section.holds("NONE if there is no such ticket;", () -> {
            ParkingTariff park = withOneLeft();
            for (int ticket : NO_TICKETS) {
                Checks.due("ticket(" + ticket + ", 0)", park.ticket(ticket, 0), NONE);
            }
            Checks.due("none at all", new ParkingTariff().ticket(0, 0), NONE);
        });
        section.holds("BAD_ARGUMENT if what is not from 0 to 7.", () -> {
            ParkingTariff park = withOneLeft();
            for (int what : new int[] {-1, 8, Integer.MIN_VALUE, Integer.MAX_VALUE}) {
                Checks.due("ticket(0, " + what + ")", park.ticket(0, what), BAD_ARGUMENT);
                Checks.due("ticket(1, " + what + ")", park.ticket(1, what), BAD_ARGUMENT);
            }
        });
    }

    private static void step() {
        Section section = Section.of("Promise 21: step");
        section.holds("Returns the amount after a step of finding the fee of a ticket of a car inside for the present minute:", () -> {
            ParkingTariff park = Parks.withGiven(1, 50, 2, 10);
            park.advance(60);
            Checks.due("now", park.step(0, 2), 40);
            park.pay(0);
            Checks.due("what was paid does not count", park.step(0, 2), 40);
            park.advance(1);
            Checks.due("a minute later", park.step(0, 2), 90);
        });
        section.holds("the fee of the shortened stay (step 0, also without vouchers),", () -> {
            ParkingTariff park = Parks.withCar(61);
            Checks.due("without vouchers", park.step(0, 0), 200);
            ParkingTariff other = Parks.withGiven(0, 30, 1, 50, 0, 15);
            other.advance(45);
            Checks.due("it begins now", other.step(0, 0), 0);
            other.advance(60);
            Checks.due("one unit of it", other.step(0, 0), 100);
            other.advance(1);
            Checks.due("two units of it", other.step(0, 0), 200);
        });
        section.holds("and then after each voucher of another kind than 0, in order.", () -> {
            ParkingTariff park = Parks.withGiven(3, 170, 0, 30, 1, 50, 2, 20);
            park.advance(91);
            Checks.due("step 0", park.step(0, 0), 200);
            Checks.due("step 1, the ceiling", park.step(0, 1), 170);
            Checks.due("step 2, percent", park.step(0, 2), 85);
            Checks.due("step 3, cents", park.step(0, 3), 65);
            Checks.due("minutes are no step", park.step(0, 4), NONE);
            ParkingTariff four = Parks.withGiven(2, 1, 2, 2, 2, 3, 2, 4);
            four.advance(1);
            Checks.due("step 4", four.step(0, 4), 90);
        });
        section.tells("`ticket`: the ticket");
        section.holds("`step`: the step, from 0", () -> {
            ParkingTariff park = Parks.withGiven(2, 10);
            park.advance(1);
            Checks.due("the first", park.step(0, 0), 100);
            Checks.due("the second", park.step(0, 1), 90);
            Checks.due("none before them", park.step(0, -1), NONE);
        });
        section.holds("Returns the amount;", () -> {
            ParkingTariff park = Parks.withGiven(2, 100, 3, 0);
            Checks.due("nothing at first", park.step(0, 0), 0);
            park.advance(1);
            Checks.due("nothing is left", park.step(0, 1), 0);
            Checks.due("nothing is left", park.step(0, 2), 0);
        });
    }

    private static void stepFaults() {
        Section section = Section.of("Promise 21: step");
        section.holds("NONE if there is no such ticket of a car inside or no such step;", () -> {
            ParkingTariff park = withOneLeft();
            for (int ticket : NO_TICKETS) {
                Checks.due("step(" + ticket + ", 0)", park.step(ticket, 0), NONE);
            }
            Checks.due("its car has left", park.step(1, 0), NONE);
            for (int step : new int[] {-1, 1, Integer.MIN_VALUE, Integer.MAX_VALUE}) {
                Checks.due("step(0, " + step + ") without vouchers", park.step(0, step), NONE);
            }
            park.give(0, 0, 0);
            Checks.due("step 1 with one voucher", park.step(0, 1), 0);
            Checks.due("step 2 with one voucher", park.step(0, 2), NONE);
            Checks.due("step 1 with minutes alone", Parks.withGiven(0, 5, 0, 5).step(0, 1), NONE);
        });
        section.holds("STATE if it is lost.", () -> {
            ParkingTariff park = Parks.withGiven(2, 10);
            park.lose(0);
            Checks.due("step 0", park.step(0, 0), STATE);
            Checks.due("step 1", park.step(0, 1), STATE);
            park.pay(0);
            Checks.due("step 0, when it is paid", park.step(0, 0), STATE);
        });
    }
}
