/** Promises 9 to 13: vouchers and folders. */
public final class VoucherTest {
    private static final int NONE = ParkingTariff.NONE;
    private static final int BAD_ARGUMENT = ParkingTariff.BAD_ARGUMENT;
    private static final int[] FAR = {Integer.MIN_VALUE, Integer.MAX_VALUE};

    public static void main(String[] args) {
        addVoucher();
        tenVouchers();
        voucher();
        makeFolder();
        put();
        putFaults();
        inFolder();
        Checks.end();
    }

    private static void addVoucher() {
        ParkingTariff park = new ParkingTariff();
        int[][] wrong = {{-1, 0}, {4, 0}, {0, -1}, {0, 1000}, {1, 101}, {1, -1}, {2, 1000}, {3, 1000}, FAR};
        for (int[] pair : wrong) {
            Checks.due("addVoucher(" + pair[0] + ", " + pair[1] + ")", park.addVoucher(pair[0], pair[1]), BAD_ARGUMENT);
        }
        Checks.due("none of them is there", park.count(10), 0);
        Checks.due("minutes", park.addVoucher(0, 999), 0);
        Checks.due("percent", park.addVoucher(1, 100), 1);
        Checks.due("cents", park.addVoucher(2, 999), 2);
        Checks.due("ceiling", park.addVoucher(3, 999), 3);
        Checks.due("nothing", park.addVoucher(1, 0), 4);
        Checks.due("count", park.count(10), 5);
    }

    private static void tenVouchers() {
        ParkingTariff park = new ParkingTariff();
        for (int i = 0; i < 10; i++) {
            Checks.due("the next number", park.addVoucher(i % 4, i), i);
        }
        Checks.due("the eleventh", park.addVoucher(0, 0), ParkingTariff.FULL);
        Checks.due("a wrong one is told first", park.addVoucher(4, 0), BAD_ARGUMENT);
        Checks.due("a wrong amount is told first", park.addVoucher(1, 101), BAD_ARGUMENT);
        Checks.due("count", park.count(10), 10);
        Checks.due("the last one", park.voucher(9, 1), 9);
        Checks.due("none behind it", park.voucher(10, 1), NONE);
    }

    private static void voucher() {
        ParkingTariff park = new ParkingTariff();
        park.addVoucher(0, 5);
        park.addVoucher(3, 77);
        Checks.due("kind", park.voucher(1, 0), 3);
        Checks.due("amount", park.voucher(1, 1), 77);
        Checks.due("given", park.voucher(1, 2), 0);
        Checks.due("kind", park.voucher(0, 0), 0);
        Checks.due("amount", park.voucher(0, 1), 5);
        Checks.due("what -1", park.voucher(0, -1), BAD_ARGUMENT);
        Checks.due("what 3", park.voucher(0, 3), BAD_ARGUMENT);
        Checks.due("no voucher is told first", park.voucher(2, 3), NONE);
        Checks.due("voucher -1", park.voucher(-1, 0), NONE);
        Checks.due("voucher MIN", park.voucher(FAR[0], 0), NONE);
        Checks.due("voucher MAX", park.voucher(FAR[1], 0), NONE);
        park.makeFolder(0, -1, 1);
        park.put(0, 0, 1);
        park.enter(0);
        park.enter(0);
        park.give(0, 0, 0);
        park.give(1, 0, 0);
        park.give(1, 0, 0);
        park.leave(1);
        Checks.due("given three times", park.voucher(1, 2), 3);
        Checks.due("the other one never", park.voucher(0, 2), 0);
    }

    private static void makeFolder() {
        ParkingTariff park = new ParkingTariff();
        int[][] wrong = {{-1, 0, 1}, {3, 0, 1}, {0, -2, 1}, {0, 4, 1}, {0, 0, 0}, {0, 0, 6}, {FAR[1], FAR[0], FAR[1]}};
        park.addVoucher(0, 5);
        for (int[] three : wrong) {
            Checks.due("makeFolder(" + three[0] + ", " + three[1] + ", " + three[2] + ")",
                    park.makeFolder(three[0], three[1], three[2]), BAD_ARGUMENT);
        }
        Checks.due("it is not made", park.put(0, 0, 0), NONE);
        Checks.due("one place", park.makeFolder(0, 3, 1), 1);
        Checks.due("five places", park.makeFolder(2, -1, 5), 5);
        park.put(2, 4, 0);
        Checks.due("a wrong one changes nothing", park.makeFolder(2, 0, 6), BAD_ARGUMENT);
        Checks.due("the voucher is there", park.inFolder(2, 4), 0);
        Checks.due("made again", park.makeFolder(2, 0, 5), 5);
        Checks.due("it is empty", park.inFolder(2, 4), NONE);
        Checks.due("only one is in it", park.put(2, 0, 0), 1);
        Checks.due("made smaller", park.makeFolder(2, 0, 2), 2);
        Checks.due("no such place", park.put(2, 2, 0), NONE);
        Checks.due("the kind is new", park.makeFolder(2, 1, 2), 2);
        Checks.due("not of this kind", park.put(2, 1, 0), ParkingTariff.WRONG_KIND);
    }

    private static void put() {
        ParkingTariff park = new ParkingTariff();
        for (int kind = 0; kind < 4; kind++) {
            park.addVoucher(kind, 10);
        }
        park.makeFolder(1, -1, 3);
        Checks.due("the last place", park.put(1, 2, 3), 1);
        Checks.due("the first place", park.put(1, 0, 0), 2);
        Checks.due("in place of it", park.put(1, 0, 1), 2);
        Checks.due("it is the new one", park.inFolder(1, 0), 1);
        Checks.due("the same one again", park.put(1, 1, 1), 3);
        for (int kind = 0; kind < 4; kind++) {
            park.makeFolder(0, kind, 1);
            for (int voucher = 0; voucher < 4; voucher++) {
                Checks.due("kind " + kind + ", voucher " + voucher, park.put(0, 0, voucher),
                        kind == voucher ? 1 : ParkingTariff.WRONG_KIND);
            }
            Checks.due("what is in it", park.inFolder(0, 0), kind);
        }
    }

    private static void putFaults() {
        ParkingTariff park = new ParkingTariff();
        park.addVoucher(0, 10);
        park.makeFolder(0, 1, 2);
        for (int wrong : new int[] {-1, 3, FAR[0], FAR[1]}) {
            Checks.due("folder " + wrong, park.put(wrong, 0, 0), NONE);
            Checks.due("place " + wrong, park.put(0, wrong, 0), NONE);
            Checks.due("voucher " + wrong, park.put(0, 0, wrong), NONE);
        }
        Checks.due("not made", park.put(1, 0, 0), NONE);
        Checks.due("no such place", park.put(0, 2, 0), NONE);
        Checks.due("no such voucher", park.put(0, 0, 1), NONE);
        Checks.due("none is told before the wrong kind", park.put(0, 2, 0), NONE);
        Checks.due("wrong kind", park.put(0, 1, 0), ParkingTariff.WRONG_KIND);
        Checks.due("nothing is in it", park.inFolder(0, 1), NONE);
    }

    private static void inFolder() {
        ParkingTariff park = new ParkingTariff();
        park.addVoucher(0, 10);
        park.addVoucher(0, 20);
        park.makeFolder(2, 0, 3);
        park.put(2, 1, 1);
        Checks.due("empty", park.inFolder(2, 0), NONE);
        Checks.due("the voucher", park.inFolder(2, 1), 1);
        Checks.due("no such place", park.inFolder(2, 3), NONE);
        Checks.due("not made", park.inFolder(0, 0), NONE);
        for (int wrong : new int[] {-1, 5, FAR[0], FAR[1]}) {
            Checks.due("folder " + wrong, park.inFolder(wrong, 1), NONE);
            Checks.due("place " + wrong, park.inFolder(2, wrong), NONE);
        }
    }
}
