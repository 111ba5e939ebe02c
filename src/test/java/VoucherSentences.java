/** What the document says of vouchers and folders: promises 9 to 13. */
final class VoucherSentences {
    private static final int NONE = ParkingTariff.NONE;
    private static final int BAD_ARGUMENT = ParkingTariff.BAD_ARGUMENT;
    private static final int FULL = ParkingTariff.FULL;
    private static final int WRONG_KIND = ParkingTariff.WRONG_KIND;

    private VoucherSentences() {
    }

    static void run() {
        vouchers();
        shorterStays();
        amounts();
        folders();
        addVoucher();
        voucher();
        makeFolder();
        put();
        putFaults();
        inFolder();
    }

    private static void vouchers() {
        Section section = Section.of("Description");
        section.holds("There are at most 10 vouchers, numbered from 0.", () -> {
            ParkingTariff park = new ParkingTariff();
            for (int i = 0; i < 10; i++) {
                Checks.due("the next one", park.addVoucher(2, i), i);
            }
            Checks.due("the eleventh", park.addVoucher(2, 10), FULL);
            Checks.due("the first one", park.voucher(0, 1), 0);
            Checks.due("the tenth", park.voucher(9, 1), 9);
        });
        section.holds("A voucher has a kind and an amount from 0 to 999:"
                + " 0 minutes, 1 percent (at most 100), 2 cents, 3 ceiling.", () -> {
            int[] greatest = {999, 100, 999, 999};
            for (int kind = 0; kind < 4; kind++) {
                ParkingTariff park = new ParkingTariff();
                Checks.due("the least of kind " + kind, park.addVoucher(kind, 0), 0);
                Checks.due("the greatest of kind " + kind, park.addVoucher(kind, greatest[kind]), 1);
                Checks.due("one less than the least", park.addVoucher(kind, -1), BAD_ARGUMENT);
                Checks.due("one more than the greatest", park.addVoucher(kind, greatest[kind] + 1), BAD_ARGUMENT);
                Checks.due("two of them", park.count(10), 2);
            }
            int[] dues = {300, 200, 270, 130};
            for (int kind = 0; kind < 4; kind++) {
                ParkingTariff park = Parks.withGiven(kind, new int[] {60, 50, 130, 130}[kind]);
                Checks.due("due with kind " + kind, park.due(0, 240), dues[kind]);
            }
        });
        section.holds("A ticket has at most 4 vouchers,", () -> {
            ParkingTariff park = Parks.withGiven(2, 1, 2, 10, 2, 100);
            Checks.due("the fourth", park.give(0, 0, 0), 4);
            Checks.due("the fifth", park.give(0, 0, 0), FULL);
            Checks.due("four of them", park.ticket(0, 4), 4);
            Checks.due("all four count", park.due(0, 600), 1000 - 112);
        });
        section.holds("in the order in which they were given.", () -> {
            Checks.due("half of it, then 40 less", Parks.withGiven(1, 50, 2, 40).due(0, 120), 60);
            Checks.due("40 less, then half of it", Parks.withGiven(2, 40, 1, 50).due(0, 120), 80);
            Checks.due("at most 90, then half of it", Parks.withGiven(3, 90, 1, 50).due(0, 120), 45);
            Checks.due("half of it, then at most 90", Parks.withGiven(1, 50, 3, 90).due(0, 120), 90);
            ParkingTariff park = Parks.withVouchers(1, 50, 2, 40);
            park.enter(0);
            park.give(0, 0, 1);
            park.give(0, 0, 0);
            Checks.due("by the ticket's order, not by numbers", park.due(0, 120), 80);
        });
    }

    private static void shorterStays() {
        Section section = Section.of("Description");
        section.holds("With vouchers, the stay from s to e is one from s + m to e,"
                + " where m is the sum of the amounts of all vouchers of kind 0,", () -> {
            ParkingTariff park = Parks.withGiven(0, 30, 2, 5, 0, 45);
            Checks.due("before a unit ends", park.due(0, 135), 95);
            Checks.due("one minute later", park.due(0, 136), 195);
            Parks.read(park, 0, "free 10");
            Checks.due("its free minutes begin later too", park.due(0, 85), 0);
            Checks.due("behind them", park.due(0, 86), 95);
            Parks.read(park, 0, "cap 150");
            Checks.due("its blocks begin later too", park.due(0, 1515), 145);
            Checks.due("the next block", park.due(0, 1516), 245);
            Parks.read(park, 0, "band 0,100,60;band 74,70,60;band 76,50,60");
            Checks.due("its first price is that of s + m", park.due(0, 76), 65);
        });
        section.holds("and costs nothing if that is not before e;", () -> {
            ParkingTariff park = Parks.withGiven(0, 30);
            Checks.due("s + m behind e", park.due(0, 29), 0);
            Checks.due("s + m is e", park.due(0, 30), 0);
            Checks.due("s + m one minute before e", park.due(0, 31), 100);
            ParkingTariff other = Parks.withGiven(0, 999, 0, 999, 0, 999, 0, 999);
            Checks.due("the longest m is e", other.due(0, 3996), 0);
            Checks.due("one minute before e", other.due(0, 3997), 100);
            ParkingTariff last = Parks.atMinute(99999);
            Parks.addVouchers(last, 0, 999);
            last.enter(0);
            last.give(0, 0, 0);
            Checks.due("s + m behind the last minute", last.due(0, 99999), 0);
        });
    }

    private static void amounts() {
        Section section = Section.of("Description");
        section.holds("then, for each voucher of another kind in order, the amount f becomes f - f * p / 100,"
                + " with the division rounded down, by percent p;", () -> {
            int[][] percents = {{0, 5}, {1, 5}, {19, 5}, {20, 4}, {33, 4}, {39, 4}, {40, 3}, {50, 3}, {99, 1}, {100, 0}};
            for (int[] pair : percents) {
                ParkingTariff park = Parks.withGiven(1, pair[0]);
                Parks.read(park, 0, "band 0,5,60");
                Checks.due("5 less " + pair[0] + " percent", park.due(0, 1), pair[1]);
            }
            Checks.due("twice half of it", Parks.withGiven(1, 50, 1, 50).due(0, 1), 25);
            ParkingTariff park = Parks.withGiven(1, 99);
            Parks.read(park, 0, "band 0,999,5");
            Checks.due("of the greatest fee", park.due(0, 99999), 199800);
        });
        section.holds("the greater of 0 and f - c, by cents c;", () -> {
            Checks.due("c is less", Parks.withGiven(2, 99).due(0, 1), 1);
            Checks.due("they are equal", Parks.withGiven(2, 100).due(0, 1), 0);
            Checks.due("c is greater", Parks.withGiven(2, 101).due(0, 1), 0);
            Checks.due("nothing is left to fall", Parks.withGiven(2, 999, 2, 999).due(0, 1), 0);
            Checks.due("by 0", Parks.withGiven(2, 0).due(0, 1), 100);
            Checks.due("of nothing", Parks.withGiven(2, 1).due(0, 0), 0);
            Checks.due("the step of a greater c", Parks.withGiven(2, 1).step(0, 1), 0);
        });
        section.holds("or the lesser of f and c, by the ceiling c.", () -> {
            Checks.due("c is less", Parks.withGiven(3, 99).due(0, 1), 99);
            Checks.due("they are equal", Parks.withGiven(3, 100).due(0, 1), 100);
            Checks.due("c is greater", Parks.withGiven(3, 101).due(0, 1), 100);
            Checks.due("0", Parks.withGiven(3, 0).due(0, 1), 0);
            Checks.due("of nothing", Parks.withGiven(3, 5).due(0, 0), 0);
        });
        Section.of("Description").holds("Amounts of money are whole cents.", () -> {
            ParkingTariff park = Parks.withGiven(1, 50, 1, 50);
            Parks.read(park, 0, "band 0,7,60");
            Checks.due("7 less 50 percent is 4, and that less 50 percent", park.due(0, 1), 2);
            park.advance(1);
            Checks.due("pay", park.pay(0), 2);
            Checks.due("nothing is left", park.due(0, 1), 0);
        });
    }

    private static void folders() {
        Section section = Section.of("Description");
        section.holds("There are 3 folders, numbered from 0, not made at first.", () -> {
            ParkingTariff park = new ParkingTariff();
            park.addVoucher(0, 1);
            for (int folder = 0; folder < 3; folder++) {
                Checks.due("nothing in folder " + folder, park.inFolder(folder, 0), NONE);
                Checks.due("no place in folder " + folder, park.put(folder, 0, 0), NONE);
            }
            for (int folder = 0; folder < 3; folder++) {
                Checks.due("made", park.makeFolder(folder, -1, folder + 1), folder + 1);
                Checks.due("its last place", park.put(folder, folder, 0), 1);
            }
            Checks.due("no folder 3", park.makeFolder(3, -1, 1), BAD_ARGUMENT);
            Checks.due("nothing in folder 3", park.inFolder(3, 0), NONE);
        });
        section.holds("A folder is made for all kinds of vouchers or for one kind,", () -> {
            ParkingTariff park = Parks.withVouchers(0, 1, 1, 1, 2, 1, 3, 1);
            for (int voucher = 0; voucher < 4; voucher++) {
                Checks.due("for all kinds", park.inFolder(0, voucher), voucher);
            }
            for (int kind = 0; kind < 4; kind++) {
                park.makeFolder(1, kind, 5);
                for (int voucher = 0; voucher < 4; voucher++) {
                    Checks.due("kind " + kind + " takes kind " + voucher, park.put(1, 0, voucher),
                            kind == voucher ? 1 : WRONG_KIND);
                }
            }
        });
        section.holds("and has 1 to 5 places,", () -> {
            ParkingTariff park = new ParkingTariff();
            park.addVoucher(0, 1);
            for (int places = 1; places <= 5; places++) {
                Checks.due("made", park.makeFolder(0, -1, places), places);
                Checks.due("the last place", park.put(0, places - 1, 0), 1);
                Checks.due("behind it", park.put(0, places, 0), NONE);
            }
            Checks.due("no place", park.makeFolder(0, -1, 0), BAD_ARGUMENT);
            Checks.due("six places", park.makeFolder(0, -1, 6), BAD_ARGUMENT);
        });
        section.holds("which are empty at first.", () -> {
            ParkingTariff park = new ParkingTariff();
            park.makeFolder(0, -1, 5);
            for (int place = 0; place < 5; place++) {
                Checks.due("place " + place, park.inFolder(0, place), NONE);
            }
            park.addVoucher(0, 1);
            Checks.due("the only one that is not empty", park.put(0, 4, 0), 1);
        });
        section.holds("A ticket gets its vouchers from folders.", () -> {
            ParkingTariff park = Parks.withVouchers(2, 10, 2, 20);
            park.enter(0);
            Checks.due("give", park.give(0, 0, 1), 1);
            Checks.due("it counts", park.due(0, 60), 80);
        });
    }

    private static void addVoucher() {
        Section section = Section.of("Promise 9: addVoucher");
        section.holds("Adds a voucher.", () -> {
            ParkingTariff park = new ParkingTariff();
            park.addVoucher(3, 77);
            Checks.due("one", park.count(10), 1);
            Checks.due("its kind", park.voucher(0, 0), 3);
            Checks.due("its amount", park.voucher(0, 1), 77);
        });
        section.holds("`kind`: the kind, 0 to 3", () -> {
            ParkingTariff park = new ParkingTariff();
            for (int kind = 0; kind < 4; kind++) {
                Checks.due("kind " + kind, park.addVoucher(kind, 1), kind);
            }
        });
        section.holds("`amount`: the amount, 0 to 999, for kind 1 at most 100", () -> {
            ParkingTariff park = new ParkingTariff();
            int[][] good = {{0, 0}, {0, 999}, {1, 0}, {1, 100}, {2, 0}, {2, 999}, {3, 0}, {3, 999}, {0, 101}, {2, 101}};
            for (int i = 0; i < good.length; i++) {
                Checks.due("addVoucher(" + good[i][0] + ", " + good[i][1] + ")", park.addVoucher(good[i][0], good[i][1]), i);
                Checks.due("its amount", park.voucher(i, 1), good[i][1]);
            }
        });
        section.holds("Returns its number;", () -> {
            ParkingTariff park = new ParkingTariff();
            Checks.due("the first", park.addVoucher(0, 5), 0);
            Checks.due("no voucher", park.addVoucher(0, -5), BAD_ARGUMENT);
            Checks.due("the second", park.addVoucher(0, 5), 1);
        });
        section.holds("BAD_ARGUMENT if an argument is not as described;", () -> {
            ParkingTariff park = new ParkingTariff();
            int[][] wrong = {{-1, 0}, {4, 0}, {0, -1}, {0, 1000}, {1, -1}, {1, 101}, {2, -1}, {2, 1000}, {3, -1}, {3, 1000},
                {Integer.MIN_VALUE, 0}, {Integer.MAX_VALUE, 0}, {0, Integer.MIN_VALUE}, {0, Integer.MAX_VALUE}};
            for (int[] pair : wrong) {
                Checks.due("addVoucher(" + pair[0] + ", " + pair[1] + ")", park.addVoucher(pair[0], pair[1]), BAD_ARGUMENT);
            }
            Checks.due("none is there", park.count(10), 0);
        });
        section.holds("FULL if there are 10 vouchers.", () -> {
            ParkingTariff park = new ParkingTariff();
            for (int i = 0; i < 9; i++) {
                park.addVoucher(0, i);
            }
            Checks.due("the tenth", park.addVoucher(0, 9), 9);
            Checks.due("the eleventh", park.addVoucher(0, 10), FULL);
            Checks.due("one of another kind", park.addVoucher(3, 10), FULL);
            Checks.due("ten stay", park.count(10), 10);
            Checks.due("no voucher 10", park.voucher(10, 0), NONE);
        });
    }

    private static void voucher() {
        Section section = Section.of("Promise 10: voucher");
        section.holds("Returns a property of a voucher.", () -> {
            ParkingTariff park = Parks.withVouchers(0, 5, 3, 77);
            Checks.due("kind of voucher 0", park.voucher(0, 0), 0);
            Checks.due("amount of voucher 0", park.voucher(0, 1), 5);
            Checks.due("kind of voucher 1", park.voucher(1, 0), 3);
            Checks.due("amount of voucher 1", park.voucher(1, 1), 77);
        });
        section.tells("`voucher`: the voucher");
        section.holds("`what`: 0 for its kind, 1 for its amount, 2 for how often it was given", () -> {
            ParkingTariff park = Parks.withVouchers(2, 60);
            Checks.due("kind", park.voucher(0, 0), 2);
            Checks.due("amount", park.voucher(0, 1), 60);
            Checks.due("never given", park.voucher(0, 2), 0);
            park.enter(0);
            park.give(0, 0, 0);
            Checks.due("given once", park.voucher(0, 2), 1);
        });
        section.holds("Returns the property;", () -> {
            ParkingTariff park = Parks.withVouchers(2, 60, 2, 60);
            park.enter(0);
            park.enter(0);
            park.give(0, 0, 0);
            park.give(1, 0, 0);
            park.give(1, 0, 0);
            Checks.due("to two tickets", park.voucher(0, 2), 3);
            park.leave(1);
            Checks.due("after a car has left", park.voucher(0, 2), 3);
            Checks.due("the other one", park.voucher(1, 2), 0);
            park.makeFolder(0, -1, 1);
            Checks.due("no longer in a folder", park.voucher(0, 2), 3);
        });
        section.holds("NONE if there is no such voucher;", () -> {
            ParkingTariff park = Parks.withVouchers(0, 5);
            for (int voucher : new int[] {-1, 1, 9, 10, Integer.MIN_VALUE, Integer.MAX_VALUE}) {
                Checks.due("voucher(" + voucher + ", 0)", park.voucher(voucher, 0), NONE);
            }
            Checks.due("none at all", new ParkingTariff().voucher(0, 0), NONE);
        });
        section.holds("BAD_ARGUMENT if what is not from 0 to 2.", () -> {
            ParkingTariff park = Parks.withVouchers(0, 5);
            for (int what : new int[] {-1, 3, Integer.MIN_VALUE, Integer.MAX_VALUE}) {
                Checks.due("voucher(0, " + what + ")", park.voucher(0, what), BAD_ARGUMENT);
            }
        });
    }

    private static void makeFolder() {
        Section section = Section.of("Promise 11: makeFolder");
        section.holds("Makes a folder with empty places, in place of what it was.", () -> {
            ParkingTariff park = Parks.withVouchers(0, 1, 0, 1, 1, 1, 0, 1, 0, 1);
            Checks.due("made again", park.makeFolder(0, 0, 5), 5);
            for (int place = 0; place < 5; place++) {
                Checks.due("place " + place, park.inFolder(0, place), NONE);
            }
            Checks.due("for kind 0 now", park.put(0, 2, 2), WRONG_KIND);
            Checks.due("the only one", park.put(0, 2, 0), 1);
            Checks.due("made smaller", park.makeFolder(0, 0, 2), 2);
            Checks.due("no third place", park.put(0, 2, 0), NONE);
            Checks.due("made larger", park.makeFolder(0, -1, 4), 4);
            Checks.due("its third place is empty", park.inFolder(0, 2), NONE);
            Checks.due("for all kinds now", park.put(0, 3, 2), 1);
        });
        section.holds("`folder`: the folder, 0 to 2", () -> {
            ParkingTariff park = new ParkingTariff();
            park.addVoucher(0, 1);
            Checks.due("folder 0", park.makeFolder(0, -1, 1), 1);
            Checks.due("folder 1 is not made", park.put(1, 0, 0), NONE);
            Checks.due("folder 2", park.makeFolder(2, -1, 3), 3);
            Checks.due("folder 1 is not made", park.put(1, 0, 0), NONE);
            Checks.due("folder 0 has one place", park.put(0, 1, 0), NONE);
        });
        section.holds("`kind`: the kind, 0 to 3, or -1 for all kinds", () -> {
            ParkingTariff park = new ParkingTariff();
            for (int kind = -1; kind < 4; kind++) {
                Checks.due("kind " + kind, park.makeFolder(1, kind, 2), 2);
            }
        });
        section.holds("`places`: the number of places, 1 to 5", () -> {
            ParkingTariff park = new ParkingTariff();
            Checks.due("one", park.makeFolder(0, 0, 1), 1);
            Checks.due("five", park.makeFolder(0, 0, 5), 5);
        });
        section.holds("Returns the number of places;", () -> {
            for (int places = 1; places <= 5; places++) {
                Checks.due(places + " places", new ParkingTariff().makeFolder(2, 3, places), places);
            }
        });
        section.holds("BAD_ARGUMENT if an argument is out of range.", () -> {
            ParkingTariff park = new ParkingTariff();
            park.addVoucher(0, 1);
            int[][] wrong = {{-1, 0, 1}, {3, 0, 1}, {0, -2, 1}, {0, 4, 1}, {0, 0, 0}, {0, 0, -1}, {0, 0, 6}};
            for (int[] three : wrong) {
                Checks.due("makeFolder(" + three[0] + ", " + three[1] + ", " + three[2] + ")",
                        park.makeFolder(three[0], three[1], three[2]), BAD_ARGUMENT);
            }
            for (int far : Parks.FAR) {
                Checks.due("makeFolder(" + far + ", 0, 1)", park.makeFolder(far, 0, 1), BAD_ARGUMENT);
                Checks.due("makeFolder(0, " + far + ", 1)", park.makeFolder(0, far, 1), BAD_ARGUMENT);
                Checks.due("makeFolder(0, 0, " + far + ")", park.makeFolder(0, 0, far), BAD_ARGUMENT);
            }
            Checks.due("folder 0 is not made", park.put(0, 0, 0), NONE);
        });
    }

    private static void put() {
        Section section = Section.of("Promise 12: put");
        section.holds("Puts a voucher into a place of a folder, in place of what is there.", () -> {
            ParkingTariff park = Parks.withVouchers(0, 1, 1, 2, 2, 3);
            Checks.due("in place of voucher 1", park.put(0, 1, 2), 3);
            Checks.due("place 1", park.inFolder(0, 1), 2);
            Checks.due("place 0", park.inFolder(0, 0), 0);
            Checks.due("place 2", park.inFolder(0, 2), 2);
        });
        section.tells("`folder`: the folder");
        section.holds("`place`: the place, from 0", () -> {
            ParkingTariff park = Parks.withVouchers(0, 1);
            park.makeFolder(1, 0, 3);
            Checks.due("the first", park.put(1, 0, 0), 1);
            Checks.due("the last", park.put(1, 2, 0), 2);
            Checks.due("between them", park.inFolder(1, 1), NONE);
        });
        section.tells("`voucher`: the voucher");
        section.holds("Returns the number of places that are not empty;", () -> {
            ParkingTariff park = Parks.withVouchers(0, 1, 0, 2);
            park.makeFolder(2, -1, 5);
            int[] places = {4, 4, 0, 1, 0, 3, 2, 2};
            int[] numbers = {1, 1, 2, 3, 3, 4, 5, 5};
            for (int i = 0; i < places.length; i++) {
                Checks.due("put(2, " + places[i] + ", " + i % 2 + ")", park.put(2, places[i], i % 2), numbers[i]);
            }
        });
    }

    private static void putFaults() {
        Section section = Section.of("Promise 12: put");
        section.holds("NONE if there is no such folder, it is not made, or there is no such place or voucher;", () -> {
            ParkingTariff park = Parks.withVouchers(0, 10, 0, 20);
            park.makeFolder(2, -1, 3);
            for (int folder : new int[] {-1, 3, Integer.MIN_VALUE, Integer.MAX_VALUE}) {
                Checks.due("put(" + folder + ", 0, 0)", park.put(folder, 0, 0), NONE);
            }
            Checks.due("a folder that is not made", park.put(1, 0, 0), NONE);
            for (int place : new int[] {-1, 3, 4, 5, Integer.MIN_VALUE, Integer.MAX_VALUE}) {
                Checks.due("put(2, " + place + ", 0)", park.put(2, place, 0), NONE);
            }
            for (int voucher : new int[] {-1, 2, 9, 10, Integer.MIN_VALUE, Integer.MAX_VALUE}) {
                Checks.due("put(2, 0, " + voucher + ")", park.put(2, 0, voucher), NONE);
            }
            Checks.due("nothing was put", park.put(2, 1, 0), 1);
        });
        section.holds("WRONG_KIND.", () -> {
            ParkingTariff park = Parks.withVouchers(0, 1, 1, 1, 2, 1, 3, 1);
            for (int kind = 0; kind < 4; kind++) {
                park.makeFolder(1, kind, 1);
                for (int more = 1; more < 4; more++) {
                    Checks.due("another kind", park.put(1, 0, (kind + more) % 4), WRONG_KIND);
                }
                Checks.due("it stays empty", park.inFolder(1, 0), NONE);
                Checks.due("its own kind", park.put(1, 0, kind), 1);
                Checks.due("another kind", park.put(1, 0, (kind + 1) % 4), WRONG_KIND);
                Checks.due("its voucher stays", park.inFolder(1, 0), kind);
            }
        });
    }

    private static void inFolder() {
        Section section = Section.of("Promise 13: inFolder");
        section.holds("Returns the voucher in a place of a folder.", () -> {
            ParkingTariff park = Parks.withVouchers(0, 10, 0, 20, 0, 30);
            Checks.due("the first place", park.inFolder(0, 0), 0);
            Checks.due("the last place", park.inFolder(0, 2), 2);
        });
        section.tells("`folder`: the folder");
        section.holds("`place`: the place, from 0", () -> {
            ParkingTariff park = Parks.withVouchers(0, 10, 0, 20, 0, 30, 0, 40, 0, 50);
            for (int place = 0; place < 5; place++) {
                Checks.due("place " + place, park.inFolder(0, place), place);
            }
            Checks.due("none before place 0", park.inFolder(0, -1), NONE);
        });
        section.holds("Returns the voucher;", () -> {
            ParkingTariff park = Parks.withVouchers(0, 10, 0, 20);
            park.makeFolder(2, 0, 1);
            park.put(2, 0, 1);
            Checks.due("in another folder", park.inFolder(2, 0), 1);
            Checks.due("asked again", park.inFolder(2, 0), 1);
        });
        section.holds("NONE if there is no such folder, it is not made, or there is no such place, or it is empty.", () -> {
            ParkingTariff park = Parks.withVouchers(0, 10, 0, 20, 0, 30);
            park.makeFolder(2, -1, 2);
            for (int folder : new int[] {-1, 3, Integer.MIN_VALUE, Integer.MAX_VALUE}) {
                Checks.due("inFolder(" + folder + ", 0)", park.inFolder(folder, 0), NONE);
            }
            Checks.due("a folder that is not made", park.inFolder(1, 0), NONE);
            for (int place : new int[] {-1, 3, 4, 5, Integer.MIN_VALUE, Integer.MAX_VALUE}) {
                Checks.due("inFolder(0, " + place + ")", park.inFolder(0, place), NONE);
            }
            Checks.due("an empty place", park.inFolder(2, 1), NONE);
        });
    }
}
