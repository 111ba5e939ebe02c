import java.util.function.ToIntFunction;

/** What the document says of counts, snapshots and errors: promises 26, 30 and 31, and the constants. */
final class StateSentences {
    private static final int NONE = ParkingTariff.NONE;
    private static final int BAD_ARGUMENT = ParkingTariff.BAD_ARGUMENT;
    private static final int FULL = ParkingTariff.FULL;
    private static final int STATE = ParkingTariff.STATE;
    private static final int BAD_TEXT = ParkingTariff.BAD_TEXT;
    private static final int WRONG_KIND = ParkingTariff.WRONG_KIND;
    private static final int DUE = ParkingTariff.DUE;

    private StateSentences() {
    }

    static void run() {
        constants();
        errors();
        lastCall();
        count();
        save();
        restore();
    }

    private static void constants() {
        Section section = Section.of("Description");
        section.tells("The constants:");
        section.holds("`NONE = -1`: There is no such object.", () -> {
            Checks.due("NONE", NONE, -1);
            Checks.due("a voucher", new ParkingTariff().voucher(0, 0), -1);
        });
        section.holds("`BAD_ARGUMENT = -2`: An argument is outside its range.", () -> {
            Checks.due("BAD_ARGUMENT", BAD_ARGUMENT, -2);
            Checks.due("a plan", new ParkingTariff().plan(4, 0), -2);
        });
        section.holds("`FULL = -3`: A limit would be exceeded.", () -> {
            Checks.due("FULL", FULL, -3);
            Checks.due("the clock", Parks.atMinute(99999).advance(1), -3);
        });
        section.holds("`STATE = -4`: The state of a ticket does not allow the call.", () -> {
            Checks.due("STATE", STATE, -4);
            ParkingTariff park = Parks.withCar(0);
            park.lose(0);
            Checks.due("a lost ticket", park.lose(0), -4);
        });
        section.holds("`BAD_TEXT = -5`: The text does not describe a plan; see the report.", () -> {
            Checks.due("BAD_TEXT", BAD_TEXT, -5);
            Checks.due("the empty text", new ParkingTariff().readPlan(0), -5);
        });
        section.holds("`WRONG_KIND = -6`: A folder is not made for vouchers of this kind.", () -> {
            Checks.due("WRONG_KIND", WRONG_KIND, -6);
            ParkingTariff park = Parks.withVouchers(0, 1);
            park.makeFolder(0, 1, 1);
            Checks.due("another kind", park.put(0, 0, 0), -6);
        });
        section.holds("`DUE = -7`: There is something to be paid.", () -> {
            Checks.due("DUE", DUE, -7);
            Checks.due("a car", Parks.withCar(1).leave(0), -7);
        });
        section.tells("The constructor and the methods follow, a promise each: the signature, then what it does.");
    }

    private static void errors() {
        Section section = Section.of("Description");
        section.holds("A call that returns an error code changes nothing,", StateSentences::errorsChangeNothing);
        section.holds("except for the report, and readPlan empties the text.", () -> {
            ParkingTariff park = new ParkingTariff();
            Parks.write(park, "x");
            park.append(-1, 1);
            park.append('x', 90);
            park.advance(0);
            Checks.due("other errors leave the text", park.count(11), 1);
            Checks.noReport("other errors", park);
            Checks.due("readPlan", park.readPlan(4), BAD_ARGUMENT);
            Checks.due("it empties the text", park.count(11), 0);
            Checks.noReport("no such plan", park);
            Checks.due("readPlan", Parks.read(park, 1, "x"), BAD_TEXT);
            Checks.due("it empties the text", park.count(11), 0);
            Checks.report("no plan", park, 1, 0, 3, 0);
        });
        section.holds("If several errors apply, the one that is listed first at the method is returned.",
                StateSentences::errorsInTheirOrder);
        section.holds("NONE is not an error.", () -> {
            ParkingTariff park = Parks.withVouchers(0, 1);
            park.makeFolder(1, -1, 2);
            Checks.due("an empty place is an answer", park.inFolder(1, 0), NONE);
            Checks.due("no snapshot is an answer", park.restore(), NONE);
            Checks.noReport("answers", park);
        });
    }

    /** The call answers an error, and then the park tells what one tells that was not called. */
    private static void error(String call, int error, ToIntFunction<ParkingTariff> made) {
        ParkingTariff park = atItsLimits();
        Checks.due(call, made.applyAsInt(park), error);
        Scenes.same("after " + call + " all", Scenes.everything(park), Scenes.everything(atItsLimits()));
        Checks.due("after " + call + " readPlan", park.readPlan(3), 1);
        Checks.due("after " + call + " the text's cap", park.plan(3, 1), 7);
        Checks.due("after " + call + " restore", park.restore(), 65);
        Checks.due("after " + call + " the snapshot's capacity", park.level(0, 0), 10);
    }

    /** A busy park with full vouchers, a saved snapshot, a text and a report, at the last minute of the clock. */
    private static ParkingTariff atItsLimits() {
        ParkingTariff park = Scenes.busyPark();
        for (int i = 3; i < 10; i++) {
            park.addVoucher(3, i);
        }
        park.save();
        park.makeFolder(2, 1, 2);
        park.put(0, 2, 0);
        for (int i = 0; i < 4; i++) {
            park.give(3, 0, 2);
        }
        park.readPlan(2);
        Parks.moveTo(park, 99998);
        for (int level = 0; level < 4; level++) {
            park.setCapacity(level, park.level(level, 1));
        }
        Parks.write(park, "cap 7");
        return park;
    }

    private static void errorsChangeNothing() {
        error("append(128, 1)", BAD_ARGUMENT, park -> park.append(128, 1));
        error("append(97, 0)", BAD_ARGUMENT, park -> park.append(97, 0));
        error("append(97, 86)", FULL, park -> park.append(97, 86));
        error("plan(4, 0)", BAD_ARGUMENT, park -> park.plan(4, 0));
        error("band(0, 0, 3)", BAD_ARGUMENT, park -> park.band(0, 0, 3));
        error("fee(0, 1, 0)", BAD_ARGUMENT, park -> park.fee(0, 1, 0));
        error("unit(0, 0, 100, 0)", BAD_ARGUMENT, park -> park.unit(0, 0, 100, 0));
        error("extend(0, 1, 0)", BAD_ARGUMENT, park -> park.extend(0, 1, 0));
        error("addVoucher(4, 0)", BAD_ARGUMENT, park -> park.addVoucher(4, 0));
        error("addVoucher(1, 101)", BAD_ARGUMENT, park -> park.addVoucher(1, 101));
        error("addVoucher(0, 1)", FULL, park -> park.addVoucher(0, 1));
        error("voucher(0, 3)", BAD_ARGUMENT, park -> park.voucher(0, 3));
        error("makeFolder(0, 4, 1)", BAD_ARGUMENT, park -> park.makeFolder(0, 4, 1));
        error("makeFolder(0, 0, 6)", BAD_ARGUMENT, park -> park.makeFolder(0, 0, 6));
        error("makeFolder(3, 0, 1)", BAD_ARGUMENT, park -> park.makeFolder(3, 0, 1));
        error("put(2, 0, 0)", WRONG_KIND, park -> park.put(2, 0, 0));
        error("put(1, 0, 1)", WRONG_KIND, park -> park.put(1, 0, 1));
        error("enter(4)", BAD_ARGUMENT, park -> park.enter(4));
        error("enter(0)", FULL, park -> park.enter(0));
        error("give(1, 0, 1)", STATE, park -> park.give(1, 0, 1));
        error("give(3, 0, 1)", FULL, park -> park.give(3, 0, 1));
        error("lose(1)", STATE, park -> park.lose(1));
        error("due(0, 99997)", BAD_ARGUMENT, park -> park.due(0, 99997));
        error("due(0, 100000)", BAD_ARGUMENT, park -> park.due(0, 100000));
        error("leave(0)", DUE, park -> park.leave(0));
        error("ticket(0, 8)", BAD_ARGUMENT, park -> park.ticket(0, 8));
        error("step(1, 0)", STATE, park -> park.step(1, 0));
        error("advance(0)", BAD_ARGUMENT, park -> park.advance(0));
        error("advance(3001)", BAD_ARGUMENT, park -> park.advance(3001));
        error("advance(2)", FULL, park -> park.advance(2));
        error("setCapacity(0, 41)", BAD_ARGUMENT, park -> park.setCapacity(0, 41));
        error("setCapacity(4, 9)", BAD_ARGUMENT, park -> park.setCapacity(4, 9));
        error("setCapacity(0, 0)", FULL, park -> park.setCapacity(0, 0));
        error("level(0, 6)", BAD_ARGUMENT, park -> park.level(0, 6));
        error("forecast(0, 601)", BAD_ARGUMENT, park -> park.forecast(0, 601));
        error("count(12)", BAD_ARGUMENT, park -> park.count(12));
        readPlanErrors();
    }

    private static void readPlanErrors() {
        ParkingTariff wrong = new ParkingTariff();
        String before = Scenes.everything(wrong);
        Checks.due("readPlan(4)", Parks.read(wrong, 4, "cap 7"), BAD_ARGUMENT);
        Scenes.same("after readPlan(4) all", Scenes.everything(wrong), before);
        ParkingTariff bad = new ParkingTariff();
        Checks.due("readPlan(0)", Parks.read(bad, 0, "free 1;cap 2;lost 3;days;band 0,4,5;band 6,7,8;x"), BAD_TEXT);
        String after = Scenes.everything(bad);
        Scenes.same("after readPlan(0) all but the report", after.substring(0, after.indexOf("report")),
                before.substring(0, before.indexOf("report")));
    }

    private static void errorsInTheirOrder() {
        ParkingTariff park = atItsLimits();
        Checks.due("append: BAD_ARGUMENT, FULL", park.append(128, 90), BAD_ARGUMENT);
        Checks.due("append: BAD_ARGUMENT, FULL", park.append(97, 91), BAD_ARGUMENT);
        Checks.due("band: BAD_ARGUMENT, NONE", park.band(0, 9, 3), BAD_ARGUMENT);
        Checks.due("band: BAD_ARGUMENT, NONE", park.band(4, 9, 0), BAD_ARGUMENT);
        Checks.due("addVoucher: BAD_ARGUMENT, FULL", park.addVoucher(4, 0), BAD_ARGUMENT);
        Checks.due("addVoucher: BAD_ARGUMENT, FULL", park.addVoucher(1, 101), BAD_ARGUMENT);
        Checks.due("voucher: NONE, BAD_ARGUMENT", park.voucher(10, 3), NONE);
        Checks.due("put: NONE, WRONG_KIND", park.put(2, 2, 0), NONE);
        Checks.due("enter: BAD_ARGUMENT, FULL", park.enter(4), BAD_ARGUMENT);
        Checks.due("give: NONE, STATE", park.give(1, 0, 0), NONE);
        Checks.due("give: NONE, FULL", park.give(3, 0, 0), NONE);
        Checks.due("due: NONE, BAD_ARGUMENT", park.due(2, -1), NONE);
        Checks.due("ticket: NONE, BAD_ARGUMENT", park.ticket(6, 8), NONE);
        Checks.due("step: NONE, STATE", park.step(1, 1), NONE);
        Checks.due("advance: BAD_ARGUMENT, FULL", park.advance(3001), BAD_ARGUMENT);
        Checks.due("setCapacity: BAD_ARGUMENT, FULL", park.setCapacity(0, -1), BAD_ARGUMENT);
        Checks.due("readPlan: BAD_ARGUMENT, BAD_TEXT", Parks.read(park, 4, "x"), BAD_ARGUMENT);
        ParkingTariff both = Parks.withGiven(2, 1, 2, 2, 2, 3, 2, 4);
        both.lose(0);
        Checks.due("give: STATE, FULL", both.give(0, 0, 0), STATE);
    }

    private static void lastCall() {
        Section.of("What it is").holds("An object is used for at most 512 calls after it has been made;", () -> {
            ParkingTariff park = new ParkingTariff();
            for (int car = 0; car < 256; car++) {
                Checks.due("enter", park.enter(car % 4), car);
                Checks.due("leave", park.leave(car), 0);
            }
            ParkingTariff other = new ParkingTariff();
            for (int car = 0; car < 40; car++) {
                other.enter(0);
            }
            for (int call = 40; call < 511; call++) {
                Checks.due("a car more", other.enter(0), FULL);
            }
            Checks.due("the last call", other.count(1), 40);
        });
    }

    private static void count() {
        Section section = Section.of("Promise 26: count");
        section.holds("Returns a count.", () -> {
            ParkingTariff park = Parks.withCar(0);
            Checks.due("entered", park.count(1), 1);
            park.leave(0);
            Checks.due("entered", park.count(1), 1);
            Checks.due("left", park.count(2), 1);
            Checks.due("inside", park.count(3), 0);
        });
        section.holds("`what`: 0 for the present minute, 1 for cars that entered, 2 for cars that left, 3 for cars inside,"
                + " 4 for all that was paid, 5 to 8 for what was paid by tickets of plan 0 to 3, 9 for lost tickets,"
                + " 10 for vouchers, 11 for characters of the text", StateSentences::allCounts);
        section.holds("Returns the count;", () -> {
            ParkingTariff park = new ParkingTariff();
            for (int i = 0; i < 250; i++) {
                park.leave(park.enter(0));
            }
            Checks.due("250 entered", park.count(1), 250);
            Checks.due("250 left", park.count(2), 250);
            ParkingTariff dear = Parks.withPlan("band 0,999,5");
            for (int car = 0; car < 40; car++) {
                dear.enter(0);
            }
            Parks.moveTo(dear, 99999);
            for (int car = 0; car < 40; car++) {
                dear.pay(car);
            }
            Checks.due("all that can be paid", dear.count(4), 40 * 19980000);
            Checks.due("by tickets of plan 0", dear.count(5), 40 * 19980000);
        });
        section.holds("BAD_ARGUMENT if what is not from 0 to 11.", () -> {
            for (int what : new int[] {-1, 12, Integer.MIN_VALUE, Integer.MAX_VALUE}) {
                Checks.due("count(" + what + ")", new ParkingTariff().count(what), BAD_ARGUMENT);
            }
        });
    }

    private static void allCounts() {
        ParkingTariff park = new ParkingTariff();
        for (int plan = 0; plan < 4; plan++) {
            Parks.read(park, plan, "lost 7;band 0," + (plan + 1) * 10 + ",60");
            park.enter(plan);
            park.enter(plan);
        }
        counts("entered", park, 0, 8, 0, 8, 0, 0, 0, 0, 0, 0, 0, 0);
        park.advance(61);
        for (int ticket = 0; ticket < 7; ticket++) {
            park.pay(ticket);
        }
        counts("paid", park, 61, 8, 0, 8, 320, 40, 80, 120, 80, 0, 0, 0);
        park.leave(0);
        park.leave(2);
        park.leave(7);
        counts("left, but the one that has not paid", park, 61, 8, 2, 6, 320, 40, 80, 120, 80, 0, 0, 0);
        park.lose(1);
        park.lose(7);
        park.leave(1);
        park.addVoucher(0, 1);
        park.append(97, 12);
        counts("lost, one of them left", park, 61, 8, 3, 5, 320, 40, 80, 120, 80, 2, 1, 12);
        park.advance(60);
        park.pay(3);
        counts("paid again", park, 121, 8, 3, 5, 340, 40, 100, 120, 80, 2, 1, 12);
        Parks.read(park, 1, "days");
        counts("a new plan leaves the accounts", park, 121, 8, 3, 5, 340, 40, 100, 120, 80, 2, 1, 0);
    }

    private static void counts(String what, ParkingTariff park, int... wanted) {
        for (int i = 0; i < wanted.length; i++) {
            Checks.due(what + ": count(" + i + ")", park.count(i), wanted[i]);
        }
    }

    /** Changes something of everything that a snapshot holds. */
    private static void change(ParkingTariff park) {
        Parks.read(park, 1, "lost 3");
        Parks.read(park, 0, "band 0,1,5;band 7,8,9");
        park.give(0, 0, 1);
        park.give(3, 1, 0);
        park.makeFolder(0, 0, 1);
        park.makeFolder(1, 1, 1);
        park.makeFolder(2, 0, 4);
        park.put(2, 0, 2);
        park.addVoucher(0, 3);
        park.setCapacity(0, 33);
        park.lose(0);
        park.advance(100);
        park.pay(0);
        park.leave(0);
        park.leave(1);
        park.enter(3);
        park.enter(2);
        park.advance(60);
    }

    private static void save() {
        Section section = Section.of("Promise 30: save");
        section.holds("Saves everything but the text and the report, replacing an earlier snapshot.", () -> {
            ParkingTariff park = Scenes.busyPark();
            String before = Scenes.everything(park);
            park.save();
            Scenes.same("saving changes nothing: all", Scenes.everything(park), before);
            textAndReportStay();
            earlierSnapshot();
        });
        section.holds("Returns the present minute.", () -> {
            ParkingTariff park = new ParkingTariff();
            Checks.due("at minute 0", park.save(), 0);
            park.advance(77);
            Checks.due("at minute 77", park.save(), 77);
            Checks.due("at minute 99999", Parks.atMinute(99999).save(), 99999);
        });
    }

    private static void textAndReportStay() {
        ParkingTariff park = new ParkingTariff();
        Parks.write(park, "cap");
        park.save();
        Parks.write(park, " 5");
        park.restore();
        Checks.due("the text stays", park.count(11), 5);
        Checks.due("it is read", park.readPlan(0), 1);
        Checks.due("its cap", park.plan(0, 1), 5);
        park.restore();
        Checks.due("the cap is gone", park.plan(0, 1), 0);
        Checks.due("the text stays empty", park.count(11), 0);
        Parks.read(park, 3, "free 61");
        park.restore();
        Checks.report("the report stays:", park, 3, 0, 4, 61);
        park.save();
        Parks.read(park, 2, "x");
        park.restore();
        Checks.report("the new report stays:", park, 2, 0, 3, 0);
    }

    private static void earlierSnapshot() {
        ParkingTariff park = new ParkingTariff();
        park.enter(0);
        park.save();
        park.advance(10);
        park.enter(0);
        park.save();
        park.advance(10);
        Checks.due("the later one", park.restore(), 10);
        Checks.due("its cars", park.count(3), 2);
    }

    private static void restore() {
        Section section = Section.of("Promise 31: restore");
        section.holds("Restores the snapshot, which is kept.", () -> {
            ParkingTariff park = Scenes.busyPark();
            park.save();
            change(park);
            park.restore();
            Scenes.same("all", Scenes.everything(park), Scenes.everything(Scenes.busyPark()));
            ParkingTariff again = Scenes.busyPark();
            again.save();
            for (int i = 0; i < 3; i++) {
                change(again);
                again.restore();
            }
            Scenes.same("the third time all", Scenes.everything(again), Scenes.everything(Scenes.busyPark()));
            goesOnAsBefore();
            laterTicketsAreNew();
        });
        section.holds("Returns the present minute;", () -> {
            ParkingTariff park = Parks.atMinute(40);
            park.save();
            park.advance(100);
            Checks.due("the snapshot's", park.restore(), 40);
            Checks.due("the clock", park.count(0), 40);
            Checks.due("it goes on from there", park.advance(1), 41);
        });
        section.holds("NONE if there is no snapshot.", () -> {
            ParkingTariff park = Parks.withCar(7);
            Checks.due("nothing was saved", park.restore(), NONE);
            Checks.due("the clock stays", park.count(0), 7);
            Checks.due("the car stays", park.count(3), 1);
        });
    }

    private static void goesOnAsBefore() {
        ParkingTariff park = Scenes.busyPark();
        park.save();
        change(park);
        park.restore();
        change(park);
        ParkingTariff other = Scenes.busyPark();
        change(other);
        Scenes.same("when it goes on all", Scenes.everything(park), Scenes.everything(other));
        ParkingTariff folders = Scenes.busyPark();
        folders.save();
        change(folders);
        folders.restore();
        Checks.due("a folder for all kinds", folders.put(0, 0, 0), 2);
        Checks.due("what lies in a folder for one kind", folders.inFolder(1, 0), 0);
        Checks.due("a folder for one kind", folders.put(1, 0, 1), WRONG_KIND);
        Checks.due("a folder that was not made", folders.put(2, 0, 0), NONE);
    }

    private static void laterTicketsAreNew() {
        ParkingTariff park = Scenes.busyPark();
        park.save();
        park.enter(2);
        park.addVoucher(3, 9);
        park.put(0, 2, 3);
        park.give(6, 0, 2);
        park.advance(60);
        park.lose(6);
        park.pay(6);
        park.leave(6);
        park.restore();
        Checks.due("no ticket 6", park.ticket(6, 0), NONE);
        Checks.due("no voucher 3", park.voucher(3, 0), NONE);
        Checks.due("the next ticket", park.enter(3), 6);
        Checks.ticket("it is new", park, 6, 3, 65, 2, 0, 0, 0, 0, -1);
        Checks.due("the next voucher", park.addVoucher(0, 1), 3);
        Checks.due("its kind", park.voucher(3, 0), 0);
        Checks.due("it was never given", park.voucher(3, 2), 0);
    }
}
