/** A tariff engine of a car park; what it promises stands in the document of the project. */
public final class ParkingTariff {
    public static final int NONE = -1;
    public static final int BAD_ARGUMENT = -2;
    public static final int FULL = -3;
    public static final int STATE = -4;
    public static final int BAD_TEXT = -5;
    public static final int WRONG_KIND = -6;
    public static final int DUE = -7;

    private static final int LAST_MINUTE = 99999;
    private static final int DAY = 1440;
    private static final int HOUR = 60;
    private static final int MAX_ADVANCE = 3000;
    private static final int MAX_FORECAST = 600;
    private static final int LEAVE_MINUTES = 15;

    private static final int PLANS = 4;
    private static final int MAX_FREE = 60;
    private static final int MAX_SUM = 9999;
    private static final int BY_BLOCKS = 0;
    private static final int BY_DAYS = 1;
    private static final int FIRST_LOST_FEE = 2000;
    private static final int MAX_BANDS = 6;
    private static final int FIRST_PRICE = 100;
    private static final int MAX_PRICE = 999;
    private static final int FIRST_LENGTH = 60;
    private static final int MIN_LENGTH = 5;
    private static final int MAX_LENGTH = 240;
    private static final int MAX_UNIT_INDEX = 99;
    /** No stay can have more units, since none of them is shorter than MIN_LENGTH. */
    private static final int MAX_UNITS = LAST_MINUTE / MIN_LENGTH + 1;

    private static final int MAX_VOUCHERS = 10;
    private static final int MAX_AMOUNT = 999;
    private static final int MINUTES = 0;
    private static final int PERCENT = 1;
    private static final int CENTS = 2;
    private static final int CEILING = 3;

    private static final int FOLDERS = 3;
    private static final int MAX_PLACES = 5;
    private static final int ALL_KINDS = -1;
    private static final int EMPTY = -1;

    private static final int LEVELS = 4;
    private static final int FIRST_CAPACITY = 10;
    private static final int MAX_CAPACITY = 40;

    private static final int MAX_INSIDE = 40;
    private static final int VOUCHERS_PER_TICKET = 4;
    private static final int NEVER = -1;
    /** An object is used for 512 calls, and each ticket takes one of them. */
    private static final int MAX_TICKETS = 512;

    private static final int MAX_TEXT = 90;
    private static final int MAX_CODE = 127;
    private static final int MAX_DIGITS = 4;
    private static final int NUMBERS_OF_BAND = 3;

    private static final int REPORT_LEVELS = 3;
    private static final int CODE_PLAN = 1;
    private static final int CODE_CLAUSE = 2;
    private static final int CODE_OFFSET = 3;
    private static final int CODE_NUMBER = 4;

    private final CarPark park;
    private final CarPark snapshot;
    private boolean hasSnapshot;
    private final PlanText text;
    private final Report report;

    public ParkingTariff() {
        park = new CarPark();
        snapshot = new CarPark();
        text = new PlanText();
        report = new Report();
    }

    public int append(int code, int count) {
        if (!within(code, 0, MAX_CODE) || !within(count, 1, MAX_TEXT)) {
            return BAD_ARGUMENT;
        }
        if (!text.hasRoomFor(count)) {
            return FULL;
        }
        text.add((char) code, count);
        return text.length;
    }

    public int readPlan(int plan) {
        Plan target = park.planAt(plan);
        boolean isPlan = target != null && text.describesPlan();
        text.clear();
        if (target == null) {
            return BAD_ARGUMENT;
        }
        if (!isPlan) {
            report.tell(plan, text.clause, text.faultCode, text.faultNumber);
            return BAD_TEXT;
        }
        target.copyFrom(text.draft);
        return target.bandCount;
    }

    public int plan(int plan, int what) {
        Plan found = park.planAt(plan);
        if (found == null || !within(what, 0, 4)) {
            return BAD_ARGUMENT;
        }
        return found.property(what);
    }

    public int band(int plan, int band, int what) {
        Plan found = park.planAt(plan);
        if (found == null || !within(what, 0, 2)) {
            return BAD_ARGUMENT;
        }
        Band part = found.bandAt(band);
        return part == null ? NONE : part.property(what);
    }

    public int fee(int plan, int from, int to) {
        Plan found = park.planAt(plan);
        if (found == null || !isStay(from, to)) {
            return BAD_ARGUMENT;
        }
        return found.feeOfStay(from, to);
    }

    public int unit(int plan, int from, int index, int what) {
        Plan found = park.planAt(plan);
        if (found == null || !within(from, 0, LAST_MINUTE)) {
            return BAD_ARGUMENT;
        }
        if (!within(index, 0, MAX_UNIT_INDEX) || !within(what, 0, 2)) {
            return BAD_ARGUMENT;
        }
        return found.partOfUnit(from, index, what);
    }

    public int extend(int plan, int from, int to) {
        Plan found = park.planAt(plan);
        if (found == null || !isStay(from, to)) {
            return BAD_ARGUMENT;
        }
        return found.latestEnd(from, to);
    }

    public int addVoucher(int kind, int amount) {
        if (!within(kind, MINUTES, CEILING)) {
            return BAD_ARGUMENT;
        }
        if (!within(amount, 0, kind == PERCENT ? 100 : MAX_AMOUNT)) {
            return BAD_ARGUMENT;
        }
        return park.makeVoucher(kind, amount);
    }

    public int voucher(int voucher, int what) {
        Voucher found = park.voucherAt(voucher);
        if (found == null) {
            return NONE;
        }
        return within(what, 0, 2) ? found.property(what) : BAD_ARGUMENT;
    }

    public int makeFolder(int folder, int kind, int places) {
        if (!within(folder, 0, FOLDERS - 1) || !within(kind, ALL_KINDS, CEILING)) {
            return BAD_ARGUMENT;
        }
        if (!within(places, 1, MAX_PLACES)) {
            return BAD_ARGUMENT;
        }
        park.folders[folder].make(kind, places);
        return places;
    }

    public int put(int folder, int place, int voucher) {
        Folder found = park.folderAt(folder);
        Voucher content = park.voucherAt(voucher);
        if (found == null || content == null || !found.hasPlace(place)) {
            return NONE;
        }
        if (!found.takes(content.kind)) {
            return WRONG_KIND;
        }
        found.fill(place, voucher);
        return found.filledPlaces();
    }

    public int inFolder(int folder, int place) {
        return park.voucherInFolder(folder, place);
    }

    public int enter(int plan) {
        if (park.planAt(plan) == null) {
            return BAD_ARGUMENT;
        }
        return park.admitCar(plan);
    }

    public int give(int ticket, int folder, int place) {
        Ticket found = park.ticketInside(ticket);
        int number = park.voucherInFolder(folder, place);
        Voucher voucher = park.voucherAt(number);
        if (found == null || voucher == null) {
            return NONE;
        }
        if (found.lost) {
            return STATE;
        }
        if (!found.hasRoomForVoucher()) {
            return FULL;
        }
        found.addVoucherNumber(number);
        voucher.given++;
        return found.voucherCount;
    }

    public int lose(int ticket) {
        Ticket found = park.ticketInside(ticket);
        if (found == null) {
            return NONE;
        }
        if (found.lost) {
            return STATE;
        }
        found.lost = true;
        return park.dueAmount(found, park.minute);
    }

    public int due(int ticket, int minute) {
        Ticket found = park.ticketInside(ticket);
        if (found == null) {
            return NONE;
        }
        if (!within(minute, park.minute, LAST_MINUTE)) {
            return BAD_ARGUMENT;
        }
        return park.dueAmount(found, minute);
    }

    public int pay(int ticket) {
        Ticket found = park.ticketInside(ticket);
        if (found == null) {
            return NONE;
        }
        int amount = park.dueAmount(found, park.minute);
        found.takePayment(amount, park.minute);
        return amount;
    }

    public int leave(int ticket) {
        Ticket found = park.ticketInside(ticket);
        if (found == null) {
            return NONE;
        }
        boolean paidLately = found.paidWithin(LEAVE_MINUTES, park.minute);
        if (!paidLately && park.dueAmount(found, park.minute) > 0) {
            return DUE;
        }
        park.releaseCar(found);
        return found.paid;
    }

    public int ticket(int ticket, int what) {
        Ticket found = park.ticketAt(ticket);
        if (found == null) {
            return NONE;
        }
        return within(what, 0, 7) ? found.property(what) : BAD_ARGUMENT;
    }

    public int step(int ticket, int step) {
        Ticket found = park.ticketInside(ticket);
        if (found == null || !within(step, 0, park.lastStep(found))) {
            return NONE;
        }
        return found.lost ? STATE : park.amountAfter(found, park.minute, step);
    }

    public int advance(int minutes) {
        if (!within(minutes, 1, MAX_ADVANCE)) {
            return BAD_ARGUMENT;
        }
        if (park.minute + minutes > LAST_MINUTE) {
            return FULL;
        }
        park.moveClock(minutes);
        return park.minute;
    }

    public int setCapacity(int level, int capacity) {
        Level found = park.levelAt(level);
        if (found == null || !within(capacity, 0, MAX_CAPACITY)) {
            return BAD_ARGUMENT;
        }
        if (found.cars > capacity) {
            return FULL;
        }
        int previous = found.capacity;
        found.capacity = capacity;
        return previous;
    }

    public int level(int level, int what) {
        Level found = park.levelAt(level);
        if (found == null || !within(what, 0, 5)) {
            return BAD_ARGUMENT;
        }
        return found.property(what);
    }

    public int forecast(int level, int minutes) {
        Level found = park.levelAt(level);
        if (found == null || !within(minutes, 0, MAX_FORECAST)) {
            return BAD_ARGUMENT;
        }
        return found.carsAfter(minutes);
    }

    public int count(int what) {
        switch (what) {
            case 0: return park.minute;
            case 1: return park.ticketCount;
            case 2: return park.carsLeft();
            case 3: return park.carsInside();
            case 4: return park.paidAltogether();
            case 5: return park.paidByPlan(0);
            case 6: return park.paidByPlan(1);
            case 7: return park.paidByPlan(2);
            case 8: return park.paidByPlan(3);
            case 9: return park.lostTickets();
            case 10: return park.voucherCount;
            case 11: return text.length;
            default: return BAD_ARGUMENT;
        }
    }

    public int reportLevels() {
        return report.levels;
    }

    public int reportCode(int level) {
        return report.hasLevel(level) ? report.codes[level] : NONE;
    }

    public int reportNumber(int level) {
        return report.hasLevel(level) ? report.numbers[level] : NONE;
    }

    public int save() {
        snapshot.copyFrom(park);
        hasSnapshot = true;
        return park.minute;
    }

    public int restore() {
        if (!hasSnapshot) {
            return NONE;
        }
        park.copyFrom(snapshot);
        return park.minute;
    }

    private static boolean isStay(int from, int to) {
        return within(from, 0, LAST_MINUTE) && within(to, from, LAST_MINUTE);
    }

    private static boolean within(int value, int low, int high) {
        return value >= low && value <= high;
    }

    /** As Float.floatToIntBits, which the rules of the language do not list; for values from 0. */
    private static int bitsOf(float value) {
        float significand = value;
        int exponent = 127;
        while (significand >= 2.0f && exponent < 254) {
            significand = significand * 0.5f;
            exponent++;
        }
        while (significand < 1.0f && exponent > 1) {
            significand = significand * 2.0f;
            exponent--;
        }
        // The leading bit of a normal number carries into the exponent; a subnormal one has none.
        return ((exponent - 1) << 23) + (int) (significand * 8388608.0f);
    }

    /** All that a snapshot holds. */
    private static final class CarPark {
        final Plan[] plans = new Plan[PLANS];
        final Voucher[] vouchers = new Voucher[MAX_VOUCHERS];
        final Folder[] folders = new Folder[FOLDERS];
        final Level[] levels = new Level[LEVELS];
        final Ticket[] tickets = new Ticket[MAX_TICKETS];
        int voucherCount;
        int ticketCount;
        int minute;

        CarPark() {
            for (int i = 0; i < PLANS; i++) {
                plans[i] = new Plan();
            }
            for (int i = 0; i < MAX_VOUCHERS; i++) {
                vouchers[i] = new Voucher();
            }
            for (int i = 0; i < FOLDERS; i++) {
                folders[i] = new Folder();
            }
            for (int i = 0; i < LEVELS; i++) {
                levels[i] = new Level();
            }
            for (int i = 0; i < MAX_TICKETS; i++) {
                tickets[i] = new Ticket();
            }
        }

        void copyFrom(CarPark other) {
            for (int i = 0; i < PLANS; i++) {
                plans[i].copyFrom(other.plans[i]);
            }
            for (int i = 0; i < MAX_VOUCHERS; i++) {
                vouchers[i].copyFrom(other.vouchers[i]);
            }
            for (int i = 0; i < FOLDERS; i++) {
                folders[i].copyFrom(other.folders[i]);
            }
            for (int i = 0; i < LEVELS; i++) {
                levels[i].copyFrom(other.levels[i]);
            }
            for (int i = 0; i < MAX_TICKETS && i < other.ticketCount; i++) {
                tickets[i].copyFrom(other.tickets[i]);
            }
            voucherCount = other.voucherCount;
            ticketCount = other.ticketCount;
            minute = other.minute;
        }

        Plan planAt(int number) {
            return within(number, 0, PLANS - 1) ? plans[number] : null;
        }

        Voucher voucherAt(int number) {
            boolean there = within(number, 0, MAX_VOUCHERS - 1) && number < voucherCount;
            return there ? vouchers[number] : null;
        }

        /** Answers null also for a folder that is not made. */
        Folder folderAt(int number) {
            boolean there = within(number, 0, FOLDERS - 1) && folders[number].isMade();
            return there ? folders[number] : null;
        }

        Level levelAt(int number) {
            return within(number, 0, LEVELS - 1) ? levels[number] : null;
        }

        Ticket ticketAt(int number) {
            boolean there = within(number, 0, MAX_TICKETS - 1) && number < ticketCount;
            return there ? tickets[number] : null;
        }

        /** Answers null also for the ticket of a car that has left. */
        Ticket ticketInside(int number) {
            Ticket found = ticketAt(number);
            return found == null || found.left ? null : found;
        }

        int makeVoucher(int kind, int amount) {
            if (voucherCount >= MAX_VOUCHERS) {
                return FULL;
            }
            vouchers[voucherCount].begin(kind, amount);
            voucherCount++;
            return voucherCount - 1;
        }

        int voucherInFolder(int folder, int place) {
            Folder found = folderAt(folder);
            return found == null ? NONE : found.content(place);
        }

        int admitCar(int plan) {
            int number = bestLevel();
            Level level = levelAt(number);
            if (level == null || carsInside() >= MAX_INSIDE || ticketCount >= MAX_TICKETS) {
                return FULL;
            }
            level.admitCar();
            tickets[ticketCount].begin(plan, minute, number);
            ticketCount++;
            return ticketCount - 1;
        }

        int bestLevel() {
            int best = NONE;
            float bestScore = 0.0f;
            for (int i = 0; i < LEVELS; i++) {
                float score = levels[i].score();
                if (levels[i].freePlaces() > 0 && (best == NONE || score > bestScore)) {
                    best = i;
                    bestScore = score;
                }
            }
            return best;
        }

        void releaseCar(Ticket ticket) {
            ticket.left = true;
            Level level = levelAt(ticket.level);
            if (level != null) {
                level.releaseCar();
            }
        }

        int dueAmount(Ticket ticket, int end) {
            int whole = ticket.lost
                    ? amountOfLost(ticket, end)
                    : amountAfter(ticket, end, VOUCHERS_PER_TICKET);
            return Math.max(0, whole - ticket.paid);
        }

        int amountOfLost(Ticket ticket, int end) {
            Plan plan = planAt(ticket.plan);
            if (plan == null) {
                return 0;
            }
            return Math.max(plan.lostFee, plan.feeOfStay(ticket.entry, end));
        }

        /** The amount after so many vouchers of another kind than minutes, or after all, if there are fewer. */
        int amountAfter(Ticket ticket, int end, int steps) {
            int amount = feeOfShortenedStay(ticket, end);
            int done = 0;
            for (int i = 0; i < ticket.voucherCount && done < steps; i++) {
                Voucher voucher = voucherAt(ticket.voucherNumber(i));
                if (voucher != null && voucher.kind != MINUTES) {
                    amount = voucher.reduce(amount);
                    done++;
                }
            }
            return amount;
        }

        int feeOfShortenedStay(Ticket ticket, int end) {
            Plan plan = planAt(ticket.plan);
            int from = ticket.entry + minutesGiven(ticket);
            return plan == null || from >= end ? 0 : plan.feeOfStay(from, end);
        }

        int minutesGiven(Ticket ticket) {
            int minutes = 0;
            for (int i = 0; i < ticket.voucherCount; i++) {
                Voucher voucher = voucherAt(ticket.voucherNumber(i));
                if (voucher != null && voucher.kind == MINUTES) {
                    minutes += voucher.amount;
                }
            }
            return minutes;
        }

        int lastStep(Ticket ticket) {
            int steps = 0;
            for (int i = 0; i < ticket.voucherCount; i++) {
                Voucher voucher = voucherAt(ticket.voucherNumber(i));
                if (voucher != null && voucher.kind != MINUTES) {
                    steps++;
                }
            }
            return steps;
        }

        void moveClock(int minutes) {
            int lastHour = (minute + minutes) / HOUR;
            for (int hour = minute / HOUR; hour < lastHour; hour++) {
                for (Level level : levels) {
                    level.passHour();
                }
            }
            minute += minutes;
        }

        int carsInside() {
            return ticketCount - carsLeft();
        }

        int carsLeft() {
            int cars = 0;
            for (int i = 0; i < MAX_TICKETS && i < ticketCount; i++) {
                cars += tickets[i].left ? 1 : 0;
            }
            return cars;
        }

        int lostTickets() {
            int lost = 0;
            for (int i = 0; i < MAX_TICKETS && i < ticketCount; i++) {
                lost += tickets[i].lost ? 1 : 0;
            }
            return lost;
        }

        int paidByPlan(int plan) {
            int sum = 0;
            for (int i = 0; i < MAX_TICKETS && i < ticketCount; i++) {
                sum += tickets[i].plan == plan ? tickets[i].paid : 0;
            }
            return sum;
        }

        int paidAltogether() {
            int sum = 0;
            for (int plan = 0; plan < PLANS; plan++) {
                sum += paidByPlan(plan);
            }
            return sum;
        }
    }

    private static final class Plan {
        final Band[] bands = new Band[MAX_BANDS];
        int bandCount;
        int freeMinutes;
        int cap;
        int way;
        int lostFee;

        Plan() {
            for (int i = 0; i < MAX_BANDS; i++) {
                bands[i] = new Band(i);
            }
            reset();
        }

        void reset() {
            freeMinutes = 0;
            cap = 0;
            way = BY_BLOCKS;
            lostFee = FIRST_LOST_FEE;
            bands[0].tell(0, FIRST_PRICE, FIRST_LENGTH);
            bandCount = 1;
        }

        void copyFrom(Plan other) {
            freeMinutes = other.freeMinutes;
            cap = other.cap;
            way = other.way;
            lostFee = other.lostFee;
            for (int i = 0; i < MAX_BANDS; i++) {
                bands[i].copyFrom(other.bands[i]);
            }
            bandCount = other.bandCount;
        }

        int property(int what) {
            switch (what) {
                case 0: return freeMinutes;
                case 1: return cap;
                case 2: return way;
                case 3: return lostFee;
                default: return bandCount;
            }
        }

        Band bandAt(int index) {
            boolean there = within(index, 0, MAX_BANDS - 1) && index < bandCount;
            return there ? bands[index] : null;
        }

        Band bandOfMinute(int minute) {
            int minuteOfDay = minute % DAY;
            Band found = bands[0];
            for (int i = 1; i < MAX_BANDS && i < bandCount; i++) {
                if (bands[i].beginning <= minuteOfDay) {
                    found = bands[i];
                }
            }
            return found;
        }

        /** The block or the day of a unit: what is capped together. */
        int groupOf(int from, int minute) {
            return way == BY_DAYS ? minute / DAY : (minute - from) / DAY;
        }

        int capped(int sum) {
            return cap == 0 ? sum : Math.min(sum, cap);
        }

        int feeOfStay(int from, int to) {
            if (to - from <= freeMinutes) {
                return 0;
            }
            Meter meter = new Meter(this, from);
            for (int unit = 0; unit < MAX_UNITS && meter.next < to; unit++) {
                meter.addUnit();
            }
            return meter.amount();
        }

        /** A longer stay never costs less, so that the first unit that makes it dearer is the end. */
        int latestEnd(int from, int to) {
            int amount = feeOfStay(from, to);
            int freeEnd = Math.min(from + freeMinutes, LAST_MINUTE);
            Meter meter = new Meter(this, from);
            for (int unit = 0; unit < MAX_UNITS && meter.next < LAST_MINUTE; unit++) {
                int begin = meter.next;
                meter.addUnit();
                if (meter.amount() > amount) {
                    return Math.max(begin, freeEnd);
                }
            }
            return LAST_MINUTE;
        }

        int partOfUnit(int from, int index, int what) {
            Meter meter = new Meter(this, from);
            for (int i = 0; i < index; i++) {
                meter.addUnit();
            }
            switch (what) {
                case 0: return meter.next;
                case 1: return bandOfMinute(meter.next).number;
                default: return groupOf(from, meter.next);
            }
        }
    }

    private static final class Band {
        final int number;
        int beginning;
        int price;
        int length;

        Band(int number) {
            this.number = number;
        }

        void tell(int newBeginning, int newPrice, int newLength) {
            beginning = newBeginning;
            price = newPrice;
            length = newLength;
        }

        void copyFrom(Band other) {
            tell(other.beginning, other.price, other.length);
        }

        int property(int what) {
            switch (what) {
                case 0: return beginning;
                case 1: return price;
                default: return length;
            }
        }
    }

    /** Walks over the units of a stay and sums up what they cost. */
    private static final class Meter {
        final Plan plan;
        final int from;
        int next;
        int group;
        int closedSum;
        int openSum;

        Meter(Plan plan, int from) {
            this.plan = plan;
            this.from = from;
            next = from;
            group = plan.groupOf(from, from);
        }

        void addUnit() {
            int groupOfNext = plan.groupOf(from, next);
            if (groupOfNext != group) {
                closedSum += plan.capped(openSum);
                openSum = 0;
                group = groupOfNext;
            }
            Band band = plan.bandOfMinute(next);
            openSum += band.price;
            next += band.length;
        }

        int amount() {
            return closedSum + plan.capped(openSum);
        }
    }

    private static final class Voucher {
        int kind;
        int amount;
        int given;

        void begin(int newKind, int newAmount) {
            kind = newKind;
            amount = newAmount;
            given = 0;
        }

        void copyFrom(Voucher other) {
            kind = other.kind;
            amount = other.amount;
            given = other.given;
        }

        int property(int what) {
            switch (what) {
                case 0: return kind;
                case 1: return amount;
                default: return given;
            }
        }

        /** No fee is above 20000 units of 999 cents, so that 100 times a fee still is an int. */
        int reduce(int sum) {
            switch (kind) {
                case PERCENT: return sum - sum * amount / 100;
                case CENTS: return Math.max(0, sum - amount);
                case CEILING: return Math.min(sum, amount);
                default: return sum;
            }
        }
    }

    private static final class Folder {
        final int[] contents = new int[MAX_PLACES];
        int places;
        int kind;

        boolean isMade() {
            return places > 0;
        }

        void make(int newKind, int newPlaces) {
            kind = newKind;
            places = newPlaces;
            for (int i = 0; i < MAX_PLACES; i++) {
                contents[i] = EMPTY;
            }
        }

        void copyFrom(Folder other) {
            kind = other.kind;
            places = other.places;
            for (int i = 0; i < MAX_PLACES; i++) {
                contents[i] = other.contents[i];
            }
        }

        boolean hasPlace(int place) {
            return within(place, 0, MAX_PLACES - 1) && place < places;
        }

        boolean takes(int kindOfVoucher) {
            return kind == ALL_KINDS || kind == kindOfVoucher;
        }

        void fill(int place, int voucher) {
            if (hasPlace(place)) {
                contents[place] = voucher;
            }
        }

        int content(int place) {
            return hasPlace(place) && contents[place] != EMPTY ? contents[place] : NONE;
        }

        int filledPlaces() {
            int filled = 0;
            for (int i = 0; i < MAX_PLACES && i < places; i++) {
                filled += contents[i] != EMPTY ? 1 : 0;
            }
            return filled;
        }
    }

    private static final class Level {
        int capacity = FIRST_CAPACITY;
        int cars;
        int exits;
        int entered;
        float rate;

        void copyFrom(Level other) {
            capacity = other.capacity;
            cars = other.cars;
            exits = other.exits;
            entered = other.entered;
            rate = other.rate;
        }

        int property(int what) {
            switch (what) {
                case 0: return capacity;
                case 1: return cars;
                case 2: return bitsOf(rate);
                case 3: return bitsOf(score());
                case 4: return exits;
                default: return entered;
            }
        }

        int freePlaces() {
            return capacity - cars;
        }

        float score() {
            return capacity > 0 ? (freePlaces() + rate * 0.5f) / capacity : 0.0f;
        }

        void admitCar() {
            cars++;
            entered++;
        }

        void releaseCar() {
            cars--;
            exits++;
        }

        void passHour() {
            rate = rate * 0.75f + exits * 0.25f;
            exits = 0;
        }

        int carsAfter(int minutes) {
            return Math.max(0, (int) (cars - rate * minutes / 60.0f));
        }
    }

    private static final class Ticket {
        final int[] vouchers = new int[VOUCHERS_PER_TICKET];
        int voucherCount;
        int plan;
        int entry;
        int level;
        int paid;
        int latestPayment;
        boolean left;
        boolean lost;

        void begin(int newPlan, int newEntry, int newLevel) {
            plan = newPlan;
            entry = newEntry;
            level = newLevel;
            voucherCount = 0;
            paid = 0;
            latestPayment = NEVER;
            left = false;
            lost = false;
        }

        void copyFrom(Ticket other) {
            begin(other.plan, other.entry, other.level);
            for (int i = 0; i < VOUCHERS_PER_TICKET; i++) {
                vouchers[i] = other.vouchers[i];
            }
            voucherCount = other.voucherCount;
            paid = other.paid;
            latestPayment = other.latestPayment;
            left = other.left;
            lost = other.lost;
        }

        int property(int what) {
            switch (what) {
                case 0: return plan;
                case 1: return entry;
                case 2: return level;
                case 3: return paid;
                case 4: return voucherCount;
                case 5: return left ? 1 : 0;
                case 6: return lost ? 1 : 0;
                default: return latestPayment;
            }
        }

        boolean hasRoomForVoucher() {
            return voucherCount < VOUCHERS_PER_TICKET;
        }

        void addVoucherNumber(int number) {
            if (hasRoomForVoucher()) {
                vouchers[voucherCount] = number;
                voucherCount++;
            }
        }

        int voucherNumber(int index) {
            return within(index, 0, VOUCHERS_PER_TICKET - 1) ? vouchers[index] : NONE;
        }

        void takePayment(int amount, int minute) {
            if (amount > 0) {
                paid += amount;
                latestPayment = minute;
            }
        }

        boolean paidWithin(int minutes, int now) {
            return latestPayment != NEVER && now - latestPayment <= minutes;
        }
    }

    /** The text, and the reading of it into a draft, so that a wrong text leaves every plan as it was. */
    private static final class PlanText {
        final char[] signs = new char[MAX_TEXT];
        final int[] numbers = new int[NUMBERS_OF_BAND];
        final Plan draft = new Plan();
        int length;
        int position;
        int clause;
        int toldBands;
        int faultCode;
        int faultNumber;

        boolean hasRoomFor(int signCount) {
            return length + signCount <= MAX_TEXT;
        }

        void add(char sign, int times) {
            for (int i = 0; i < times && length < MAX_TEXT; i++) {
                signs[length] = sign;
                length++;
            }
        }

        void clear() {
            length = 0;
        }

        boolean describesPlan() {
            draft.reset();
            toldBands = 0;
            position = 0;
            for (clause = 0; clause < MAX_TEXT; clause++) {
                if (!readClause()) {
                    return false;
                }
                if (position >= length) {
                    return true;
                }
                if (!readSign(';')) {
                    return false;
                }
            }
            return fault(CODE_OFFSET, position);
        }

        /** The draft may take a bad number as well: it is thrown away then. */
        boolean readClause() {
            int start = position;
            skipWord();
            if (isWord(start, "free")) {
                boolean good = readSetting(MAX_FREE);
                draft.freeMinutes = numbers[0];
                return good;
            }
            if (isWord(start, "cap")) {
                boolean good = readSetting(MAX_SUM);
                draft.cap = numbers[0];
                return good;
            }
            if (isWord(start, "lost")) {
                boolean good = readSetting(MAX_SUM);
                draft.lostFee = numbers[0];
                return good;
            }
            if (isWord(start, "days")) {
                draft.way = BY_DAYS;
                return true;
            }
            if (isWord(start, "band")) {
                return readBand();
            }
            return fault(CODE_OFFSET, start);
        }

        boolean readSetting(int greatest) {
            return readNumbers(1) && inRange(0, 0, greatest);
        }

        boolean readBand() {
            if (!readNumbers(NUMBERS_OF_BAND)) {
                return false;
            }
            if (!inRange(0, 0, DAY - 1) || !inRange(1, 0, MAX_PRICE) || !inRange(2, MIN_LENGTH, MAX_LENGTH)) {
                return false;
            }
            int beginning = numbers[0];
            if (toldBands >= MAX_BANDS || !isInOrder(beginning)) {
                return fault(CODE_NUMBER, beginning);
            }
            draft.bands[toldBands].tell(beginning, numbers[1], numbers[2]);
            toldBands++;
            draft.bandCount = toldBands;
            return true;
        }

        boolean isInOrder(int beginning) {
            Band before = draft.bandAt(toldBands - 1);
            return before == null ? beginning == 0 : beginning > before.beginning;
        }

        void skipWord() {
            while (position < length && isSmallLetter(signs[position])) {
                position++;
            }
        }

        boolean isSmallLetter(char sign) {
            return sign >= 'a' && sign <= 'z';
        }

        /** Whether the word from start to the position is the given one. */
        boolean isWord(int start, String word) {
            if (position - start != word.length()) {
                return false;
            }
            for (int i = 0; i < word.length(); i++) {
                if (signs[start + i] != word.charAt(i)) {
                    return false;
                }
            }
            return true;
        }

        boolean readNumbers(int howMany) {
            for (int i = 0; i < howMany && i < NUMBERS_OF_BAND; i++) {
                if (!readSign(i == 0 ? ' ' : ',') || !readNumber(i)) {
                    return false;
                }
            }
            return true;
        }

        boolean readSign(char sign) {
            if (position >= length || signs[position] != sign) {
                return fault(CODE_OFFSET, position);
            }
            position++;
            return true;
        }

        boolean readNumber(int index) {
            int value = 0;
            int digits = 0;
            while (digits < MAX_DIGITS && position < length && isDigit(signs[position])) {
                value = value * 10 + (signs[position] - '0');
                position++;
                digits++;
            }
            if (digits == 0) {
                return fault(CODE_OFFSET, position);
            }
            numbers[index] = value;
            return true;
        }

        boolean isDigit(char sign) {
            return sign >= '0' && sign <= '9';
        }

        boolean inRange(int index, int low, int high) {
            return within(numbers[index], low, high) || fault(CODE_NUMBER, numbers[index]);
        }

        /** Always answers false, which the readers hand on. */
        boolean fault(int code, int number) {
            faultCode = code;
            faultNumber = number;
            return false;
        }
    }

    private static final class Report {
        final int[] codes = new int[REPORT_LEVELS];
        final int[] numbers = new int[REPORT_LEVELS];
        int levels;

        boolean hasLevel(int level) {
            return within(level, 0, REPORT_LEVELS - 1) && level < levels;
        }

        void tell(int plan, int clause, int code, int number) {
            codes[0] = CODE_PLAN;
            numbers[0] = plan;
            codes[1] = CODE_CLAUSE;
            numbers[1] = clause;
            codes[2] = code;
            numbers[2] = number;
            levels = REPORT_LEVELS;
        }
    }
}
