/** Parks that tests begin with, and what they do with a park again and again. */
final class Parks {
    /** No call may do with them what it does with numbers in its range. */
    static final int[] FAR = {Integer.MIN_VALUE, Integer.MAX_VALUE};

    private Parks() {
    }

    static void write(ParkingTariff park, String text) {
        for (int i = 0; i < text.length(); i++) {
            park.append(text.charAt(i), 1);
        }
    }

    static int read(ParkingTariff park, int plan, String text) {
        write(park, text);
        return park.readPlan(plan);
    }

    /** A new park whose plan 0 is read from the text. */
    static ParkingTariff withPlan(String text) {
        ParkingTariff park = new ParkingTariff();
        read(park, 0, text);
        return park;
    }

    /** A new park with one voucher for each kind and amount, which lie in folder 0 in their order. */
    static ParkingTariff withVouchers(int... kindsAndAmounts) {
        ParkingTariff park = new ParkingTariff();
        addVouchers(park, kindsAndAmounts);
        return park;
    }

    static void addVouchers(ParkingTariff park, int... kindsAndAmounts) {
        int vouchers = kindsAndAmounts.length / 2;
        park.makeFolder(0, -1, vouchers);
        for (int i = 0; i < vouchers; i++) {
            park.addVoucher(kindsAndAmounts[2 * i], kindsAndAmounts[2 * i + 1]);
            park.put(0, i, i);
        }
    }

    /** A new park with one car by plan 0, whose ticket has such vouchers in this order. */
    static ParkingTariff withGiven(int... kindsAndAmounts) {
        ParkingTariff park = withVouchers(kindsAndAmounts);
        park.enter(0);
        for (int i = 0; i < kindsAndAmounts.length / 2; i++) {
            park.give(0, 0, i);
        }
        return park;
    }

    /** A new park with one car by plan 0, which entered at minute 0, at a later minute. */
    static ParkingTariff withCar(int minute) {
        ParkingTariff park = new ParkingTariff();
        park.enter(0);
        moveTo(park, minute);
        return park;
    }

    static ParkingTariff atMinute(int minute) {
        ParkingTariff park = new ParkingTariff();
        moveTo(park, minute);
        return park;
    }

    /** Moves the clock from wherever it stands, with few calls. */
    static void moveTo(ParkingTariff park, int minute) {
        int now = park.count(0);
        while (now < minute) {
            int minutes = Math.min(3000, minute - now);
            park.advance(minutes);
            now += minutes;
        }
    }

    /** Leaves cars no level but one, as long as no car is on another one. */
    static void onlyLevel(ParkingTariff park, int level, int capacity) {
        for (int i = 0; i < 4; i++) {
            park.setCapacity(i, i == level ? capacity : 0);
        }
    }

    /** Lets cars enter and leave at once; all of them use the same level if only one has places. */
    static void enterAndLeave(ParkingTariff park, int cars) {
        for (int i = 0; i < cars; i++) {
            park.leave(park.enter(0));
        }
    }
}
