import java.util.ArrayList;
import java.util.List;
import java.util.regex.Matcher;
import java.util.regex.Pattern;

/** The document written a second time, as slow and as literal as it can be, to hold the class against. */
final class PlainPark {
    static final class Plan {
        int free = 0;
        int cap = 0;
        int days = 0;
        int lost = 2000;
        List<int[]> bands = new ArrayList<>(List.of(new int[] {0, 100, 60}));
    }

    static final class Folder {
        int kind;
        Integer[] places;
    }

    static final class Level {
        int capacity = 10;
        int exits;
        int entered;
        float rate;
    }

    static final class Ticket {
        int plan;
        int entry;
        int level;
        boolean left;
        boolean lost;
        List<Integer> vouchers = new ArrayList<>();
        List<int[]> payments = new ArrayList<>();

        int paid() {
            return payments.stream().mapToInt(payment -> payment[1]).sum();
        }

        int latest() {
            return payments.isEmpty() ? -1 : payments.get(payments.size() - 1)[0];
        }
    }

    static final class All {
        int minute;
        List<Plan> plans = new ArrayList<>();
        List<int[]> vouchers = new ArrayList<>();
        List<Folder> folders = new ArrayList<>();
        List<Level> levels = new ArrayList<>();
        List<Ticket> tickets = new ArrayList<>();

        All copy() {
            All copy = new All();
            copy.minute = minute;
            copy.plans.addAll(plans);
            for (int[] voucher : vouchers) {
                copy.vouchers.add(voucher.clone());
            }
            for (Folder folder : folders) {
                Folder other = folder == null ? null : new Folder();
                if (folder != null) {
                    other.kind = folder.kind;
                    other.places = folder.places.clone();
                }
                copy.folders.add(other);
            }
            for (Level level : levels) {
                Level other = new Level();
                other.capacity = level.capacity;
                other.exits = level.exits;
                other.entered = level.entered;
                other.rate = level.rate;
                copy.levels.add(other);
            }
            for (Ticket ticket : tickets) {
                Ticket other = new Ticket();
                other.plan = ticket.plan;
                other.entry = ticket.entry;
                other.level = ticket.level;
                other.left = ticket.left;
                other.lost = ticket.lost;
                other.vouchers.addAll(ticket.vouchers);
                other.payments.addAll(ticket.payments);
                copy.tickets.add(other);
            }
            return copy;
        }
    }

    private static final int[] RANGES_OF_BAND = {0, 1439, 0, 999, 5, 240};

    private All all = new All();
    private All saved;
    private String text = "";
    private List<int[]> report = new ArrayList<>();

    PlainPark() {
        for (int i = 0; i < 4; i++) {
            all.plans.add(new Plan());
            all.levels.add(new Level());
        }
        for (int i = 0; i < 3; i++) {
            all.folders.add(null);
        }
    }

    private static boolean in(int value, int low, int high) {
        return low <= value && value <= high;
    }

    // --- the text

    int append(int code, int count) {
        if (!in(code, 0, 127) || !in(count, 1, 90)) {
            return -2;
        }
        if (text.length() + count > 90) {
            return -3;
        }
        text = text + String.valueOf((char) code).repeat(count);
        return text.length();
    }

    int readPlan(int plan) {
        String read = text;
        text = "";
        if (!in(plan, 0, 3)) {
            return -2;
        }
        Plan found = new Plan();
        int[] fault = parse(read, found);
        if (fault != null) {
            report = List.of(new int[] {1, plan}, new int[] {2, fault[0]}, new int[] {fault[1], fault[2]});
            return -5;
        }
        all.plans.set(plan, found);
        return found.bands.size();
    }

    /** Returns clause, code and number of what is wrong, or null. */
    private static int[] parse(String text, Plan plan) {
        List<int[]> bands = new ArrayList<>();
        int at = 0;
        for (int clause = 0; ; clause++) {
            Matcher word = Pattern.compile("[a-z]*").matcher(text).region(at, text.length());
            word.lookingAt();
            int start = at;
            at = word.end();
            int count = List.of("free", "cap", "lost").contains(word.group()) ? 1 : 0;
            count = word.group().equals("band") ? 3 : count;
            if (count == 0 && !word.group().equals("days")) {
                return new int[] {clause, 3, start};
            }
            int[] numbers = new int[count];
            for (int i = 0; i < count; i++) {
                if (!text.startsWith(i == 0 ? " " : ",", at)) {
                    return new int[] {clause, 3, at};
                }
                at++;
                Matcher digits = Pattern.compile("[0-9]{1,4}").matcher(text).region(at, text.length());
                if (!digits.lookingAt()) {
                    return new int[] {clause, 3, at};
                }
                numbers[i] = Integer.parseInt(digits.group());
                at = digits.end();
            }
            Integer bad = take(word.group(), numbers, plan, bands);
            if (bad != null) {
                return new int[] {clause, 4, bad};
            }
            if (at == text.length()) {
                plan.bands = bands.isEmpty() ? plan.bands : bands;
                return null;
            }
            if (text.charAt(at) != ';') {
                return new int[] {clause, 3, at};
            }
            at++;
        }
    }

    /** Returns the number that is out of range or of order, or null. */
    private static Integer take(String word, int[] numbers, Plan plan, List<int[]> bands) {
        switch (word) {
            case "days":
                plan.days = 1;
                return null;
            case "free":
                plan.free = numbers[0];
                return numbers[0] > 60 ? numbers[0] : null;
            case "cap":
                plan.cap = numbers[0];
                return null;
            case "lost":
                plan.lost = numbers[0];
                return null;
            default:
                for (int i = 0; i < 3; i++) {
                    if (!in(numbers[i], RANGES_OF_BAND[2 * i], RANGES_OF_BAND[2 * i + 1])) {
                        return numbers[i];
                    }
                }
                boolean first = bands.isEmpty();
                if (bands.size() == 6 || (first && numbers[0] != 0)
                        || (!first && numbers[0] <= bands.get(bands.size() - 1)[0])) {
                    return numbers[0];
                }
                bands.add(numbers);
                return null;
        }
    }

    int reportLevels() {
        return report.size();
    }

    int reportCode(int level) {
        return in(level, 0, report.size() - 1) ? report.get(level)[0] : -1;
    }

    int reportNumber(int level) {
        return in(level, 0, report.size() - 1) ? report.get(level)[1] : -1;
    }

    // --- plans and fees

    int plan(int plan, int what) {
        if (!in(plan, 0, 3) || !in(what, 0, 4)) {
            return -2;
        }
        Plan found = all.plans.get(plan);
        return new int[] {found.free, found.cap, found.days, found.lost, found.bands.size()}[what];
    }

    int band(int plan, int band, int what) {
        if (!in(plan, 0, 3) || !in(what, 0, 2)) {
            return -2;
        }
        List<int[]> bands = all.plans.get(plan).bands;
        return in(band, 0, bands.size() - 1) ? bands.get(band)[what] : -1;
    }

    private static int bandOf(Plan plan, int minute) {
        int band = plan.bands.size() - 1;
        while (plan.bands.get(band)[0] > minute % 1440) {
            band--;
        }
        return band;
    }

    private static int feeOf(Plan plan, int from, int to) {
        if (to - from <= plan.free) {
            return 0;
        }
        int[] sums = new int[100];
        int begin = from;
        while (begin < to) {
            int[] band = plan.bands.get(bandOf(plan, begin));
            sums[plan.days == 1 ? begin / 1440 : (begin - from) / 1440] += band[1];
            begin += band[2];
        }
        int fee = 0;
        for (int sum : sums) {
            fee += plan.cap > 0 && sum > plan.cap ? plan.cap : sum;
        }
        return fee;
    }

    int fee(int plan, int from, int to) {
        if (!in(plan, 0, 3) || !in(from, 0, 99999) || !in(to, from, 99999)) {
            return -2;
        }
        return feeOf(all.plans.get(plan), from, to);
    }

    int unit(int plan, int from, int index, int what) {
        if (!in(plan, 0, 3) || !in(from, 0, 99999) || !in(index, 0, 99) || !in(what, 0, 2)) {
            return -2;
        }
        Plan found = all.plans.get(plan);
        int begin = from;
        for (int i = 0; i < index; i++) {
            begin += found.bands.get(bandOf(found, begin))[2];
        }
        int group = found.days == 1 ? begin / 1440 : (begin - from) / 1440;
        return new int[] {begin, bandOf(found, begin), group}[what];
    }

    int extend(int plan, int from, int to) {
        if (!in(plan, 0, 3) || !in(from, 0, 99999) || !in(to, from, 99999)) {
            return -2;
        }
        // The fee never falls, so that halving finds the last minute of the same fee.
        int fee = fee(plan, from, to);
        int low = to;
        int high = 99999;
        while (low < high) {
            int middle = (low + high + 1) / 2;
            if (fee(plan, from, middle) > fee) {
                high = middle - 1;
            } else {
                low = middle;
            }
        }
        return low;
    }

    // --- vouchers and folders

    int addVoucher(int kind, int amount) {
        if (!in(kind, 0, 3) || !in(amount, 0, kind == 1 ? 100 : 999)) {
            return -2;
        }
        if (all.vouchers.size() == 10) {
            return -3;
        }
        all.vouchers.add(new int[] {kind, amount, 0});
        return all.vouchers.size() - 1;
    }

    int voucher(int voucher, int what) {
        if (!in(voucher, 0, all.vouchers.size() - 1)) {
            return -1;
        }
        return in(what, 0, 2) ? all.vouchers.get(voucher)[what] : -2;
    }

    int makeFolder(int folder, int kind, int places) {
        if (!in(folder, 0, 2) || !in(kind, -1, 3) || !in(places, 1, 5)) {
            return -2;
        }
        Folder made = new Folder();
        made.kind = kind;
        made.places = new Integer[places];
        all.folders.set(folder, made);
        return places;
    }

    private boolean isPlace(int folder, int place) {
        return in(folder, 0, 2) && all.folders.get(folder) != null
                && in(place, 0, all.folders.get(folder).places.length - 1);
    }

    int put(int folder, int place, int voucher) {
        if (!isPlace(folder, place) || !in(voucher, 0, all.vouchers.size() - 1)) {
            return -1;
        }
        Folder found = all.folders.get(folder);
        if (found.kind != -1 && found.kind != all.vouchers.get(voucher)[0]) {
            return -6;
        }
        found.places[place] = voucher;
        int filled = 0;
        for (Integer content : found.places) {
            filled += content == null ? 0 : 1;
        }
        return filled;
    }

    int inFolder(int folder, int place) {
        if (!isPlace(folder, place)) {
            return -1;
        }
        Integer content = all.folders.get(folder).places[place];
        return content == null ? -1 : content;
    }

    // --- tickets

    private int carsOn(int level) {
        return (int) all.tickets.stream().filter(ticket -> !ticket.left && ticket.level == level).count();
    }

    private float scoreOf(int level) {
        Level found = all.levels.get(level);
        int free = found.capacity - carsOn(level);
        return (free + found.rate * 0.5f) / found.capacity;
    }

    int enter(int plan) {
        if (!in(plan, 0, 3)) {
            return -2;
        }
        int best = -1;
        for (int level = 3; level >= 0; level--) {
            boolean free = all.levels.get(level).capacity > carsOn(level);
            if (free && (best < 0 || scoreOf(level) >= scoreOf(best))) {
                best = level;
            }
        }
        if (best < 0 || count(3) == 40) {
            return -3;
        }
        Ticket ticket = new Ticket();
        ticket.plan = plan;
        ticket.entry = all.minute;
        ticket.level = best;
        all.levels.get(best).entered++;
        all.tickets.add(ticket);
        return all.tickets.size() - 1;
    }

    private Ticket inside(int ticket) {
        boolean there = in(ticket, 0, all.tickets.size() - 1);
        return there && !all.tickets.get(ticket).left ? all.tickets.get(ticket) : null;
    }

    int give(int ticket, int folder, int place) {
        int voucher = inFolder(folder, place);
        Ticket found = inside(ticket);
        if (found == null || voucher < 0) {
            return -1;
        }
        if (found.lost) {
            return -4;
        }
        if (found.vouchers.size() == 4) {
            return -3;
        }
        found.vouchers.add(voucher);
        all.vouchers.get(voucher)[2]++;
        return found.vouchers.size();
    }

    int lose(int ticket) {
        Ticket found = inside(ticket);
        if (found == null) {
            return -1;
        }
        if (found.lost) {
            return -4;
        }
        found.lost = true;
        return dueOf(found, all.minute);
    }

    /** The amounts of all steps. */
    private List<Integer> steps(Ticket ticket, int end) {
        int begin = ticket.entry;
        List<int[]> others = new ArrayList<>();
        for (int number : ticket.vouchers) {
            int[] voucher = all.vouchers.get(number);
            if (voucher[0] == 0) {
                begin += voucher[1];
            } else {
                others.add(voucher);
            }
        }
        int amount = begin < end ? feeOf(all.plans.get(ticket.plan), begin, end) : 0;
        List<Integer> amounts = new ArrayList<>(List.of(amount));
        for (int[] voucher : others) {
            if (voucher[0] == 1) {
                amount = (int) (amount - Math.floorDiv((long) amount * voucher[1], 100L));
            } else if (voucher[0] == 2) {
                amount = amount - voucher[1] > 0 ? amount - voucher[1] : 0;
            } else {
                amount = amount < voucher[1] ? amount : voucher[1];
            }
            amounts.add(amount);
        }
        return amounts;
    }

    private int dueOf(Ticket ticket, int end) {
        int fee;
        if (ticket.lost) {
            Plan plan = all.plans.get(ticket.plan);
            fee = Math.max(feeOf(plan, ticket.entry, end), plan.lost);
        } else {
            List<Integer> steps = steps(ticket, end);
            fee = steps.get(steps.size() - 1);
        }
        return Math.max(fee - ticket.paid(), 0);
    }

    int due(int ticket, int minute) {
        Ticket found = inside(ticket);
        if (found == null) {
            return -1;
        }
        return in(minute, all.minute, 99999) ? dueOf(found, minute) : -2;
    }

    int pay(int ticket) {
        Ticket found = inside(ticket);
        if (found == null) {
            return -1;
        }
        int amount = dueOf(found, all.minute);
        if (amount > 0) {
            found.payments.add(new int[] {all.minute, amount});
        }
        return amount;
    }

    int leave(int ticket) {
        Ticket found = inside(ticket);
        if (found == null) {
            return -1;
        }
        boolean paid = !found.payments.isEmpty() && all.minute - found.latest() <= 15;
        if (dueOf(found, all.minute) != 0 && !paid) {
            return -7;
        }
        found.left = true;
        all.levels.get(found.level).exits++;
        return found.paid();
    }

    int ticket(int ticket, int what) {
        if (!in(ticket, 0, all.tickets.size() - 1)) {
            return -1;
        }
        if (!in(what, 0, 7)) {
            return -2;
        }
        Ticket found = all.tickets.get(ticket);
        return new int[] {found.plan, found.entry, found.level, found.paid(), found.vouchers.size(),
            found.left ? 1 : 0, found.lost ? 1 : 0, found.latest()}[what];
    }

    int step(int ticket, int step) {
        Ticket found = inside(ticket);
        if (found == null) {
            return -1;
        }
        List<Integer> steps = steps(found, all.minute);
        if (!in(step, 0, steps.size() - 1)) {
            return -1;
        }
        return found.lost ? -4 : steps.get(step);
    }

    // --- the clock, levels and counts

    int advance(int minutes) {
        if (!in(minutes, 1, 3000)) {
            return -2;
        }
        if (all.minute + minutes > 99999) {
            return -3;
        }
        for (int i = 0; i < minutes; i++) {
            all.minute++;
            if (all.minute % 60 == 0) {
                for (Level level : all.levels) {
                    level.rate = level.rate * 0.75f + level.exits * 0.25f;
                    level.exits = 0;
                }
            }
        }
        return all.minute;
    }

    int setCapacity(int level, int capacity) {
        if (!in(level, 0, 3) || !in(capacity, 0, 40)) {
            return -2;
        }
        if (carsOn(level) > capacity) {
            return -3;
        }
        int previous = all.levels.get(level).capacity;
        all.levels.get(level).capacity = capacity;
        return previous;
    }

    int level(int level, int what) {
        if (!in(level, 0, 3) || !in(what, 0, 5)) {
            return -2;
        }
        Level found = all.levels.get(level);
        int score = found.capacity == 0 ? 0 : Float.floatToIntBits(scoreOf(level));
        return new int[] {found.capacity, carsOn(level), Float.floatToIntBits(found.rate), score,
            found.exits, found.entered}[what];
    }

    int forecast(int level, int minutes) {
        if (!in(level, 0, 3) || !in(minutes, 0, 600)) {
            return -2;
        }
        float cars = carsOn(level) - all.levels.get(level).rate * minutes / 60.0f;
        return Math.max((int) cars, 0);
    }

    int count(int what) {
        int left = (int) all.tickets.stream().filter(ticket -> ticket.left).count();
        switch (what) {
            case 0: return all.minute;
            case 1: return all.tickets.size();
            case 2: return left;
            case 3: return all.tickets.size() - left;
            case 4: return all.tickets.stream().mapToInt(Ticket::paid).sum();
            case 5: case 6: case 7: case 8:
                return all.tickets.stream().filter(ticket -> ticket.plan == what - 5).mapToInt(Ticket::paid).sum();
            case 9: return (int) all.tickets.stream().filter(ticket -> ticket.lost).count();
            case 10: return all.vouchers.size();
            case 11: return text.length();
            default: return -2;
        }
    }

    int save() {
        saved = all.copy();
        return all.minute;
    }

    int restore() {
        if (saved == null) {
            return -1;
        }
        all = saved.copy();
        return all.minute;
    }
}
