import java.lang.reflect.Method;
import java.util.ArrayList;
import java.util.Arrays;
import java.util.List;
import java.util.Map;
import java.util.Random;
import java.util.TreeMap;

/** Holds long runs of drawn calls, the same ones each time, against PlainPark. */
public final class RandomRunsTest {
    private static final int RUNS = 1500;
    private static final int CALLS = 512;
    private static final int CALLS_OF_LONG_RUN = 6000;
    private static final int[] WILD = {-1, -2, Integer.MIN_VALUE, Integer.MAX_VALUE, 1 << 20, 512, 513};
    private static final String[] PIECES = {"free 5", "free 60", "cap 300", "cap 0", "lost 40", "lost 9999", "days",
        "band 0,5,5", "band 0,40,60", "band 0,0,30", "band 300,70,15", "band 600,0,200", "band 900,999,240", "band 1439,9,7",
        "free 61", "band 1440,1,5", "band 0,1000,5", "band 0,1,241", "cap 12345", "fre 1", "band 1,2", "", "days "};

    private final Map<String, Method> ours = new TreeMap<>();
    private final Map<String, Method> plain = new TreeMap<>();
    private final List<String> names = new ArrayList<>();
    private final Map<String, Integer> answers = new TreeMap<>();
    private Random random;

    public static void main(String[] args) throws Exception {
        RandomRunsTest test = new RandomRunsTest();
        test.findMethods();
        for (int run = 0; run < RUNS; run++) {
            test.run(run);
        }
        test.everyAnswerWasSeen();
        test.longRun();
        Checks.end();
    }

    private void findMethods() throws Exception {
        for (Method method : ParkingTariff.class.getDeclaredMethods()) {
            if (java.lang.reflect.Modifier.isPublic(method.getModifiers())) {
                ours.put(method.getName(), method);
                plain.put(method.getName(), PlainPark.class.getDeclaredMethod(method.getName(), method.getParameterTypes()));
            }
        }
        names.addAll(ours.keySet());
        // The calls that bring the state on are drawn more often.
        for (String name : List.of("enter", "enter", "give", "give", "give", "pay", "leave", "put", "advance", "addVoucher",
                "step", "due", "lose")) {
            names.add(name);
        }
    }

    private void run(int seed) throws Exception {
        random = new Random(seed);
        ParkingTariff park = new ParkingTariff();
        PlainPark wanted = new PlainPark();
        int calls = begin(seed, park, wanted);
        while (calls < CALLS) {
            if (random.nextInt(25) == 0) {
                calls += readText(seed, park, wanted);
            } else {
                String name = names.get(random.nextInt(names.size()));
                if (!compare(seed, park, wanted, name, argumentsOf(name, wanted))) {
                    return;
                }
                calls++;
            }
        }
    }

    /** Some runs begin late, and some with vouchers that are ready to be given. */
    private int begin(int seed, ParkingTariff park, PlainPark wanted) throws Exception {
        int moves = seed % 7 == 0 ? 33 : 0;
        for (int i = 0; i < moves; i++) {
            compare(seed, park, wanted, "advance", 3000);
        }
        int vouchers = seed % 2 == 0 ? 5 : 0;
        if (vouchers > 0) {
            compare(seed, park, wanted, "makeFolder", 0, -1, vouchers);
        }
        for (int i = 0; i < vouchers; i++) {
            compare(seed, park, wanted, "addVoucher", (i + seed) % 4, random.nextInt(101));
            compare(seed, park, wanted, "put", 0, i, i);
        }
        return moves + 2 * vouchers;
    }

    private int readText(int seed, ParkingTariff park, PlainPark wanted) throws Exception {
        StringBuilder text = new StringBuilder(PIECES[random.nextInt(PIECES.length - 9)]);
        int more = random.nextInt(7);
        for (int i = 0; i < more; i++) {
            int pieces = random.nextInt(3) == 0 ? PIECES.length : PIECES.length - 9;
            text.append(';').append(PIECES[random.nextInt(pieces)]);
        }
        if (random.nextInt(4) == 0) {
            text.setCharAt(random.nextInt(text.length()), "a ;,0z9\n".charAt(random.nextInt(8)));
        }
        for (int i = 0; i < text.length(); i++) {
            compare(seed, park, wanted, "append", (int) text.charAt(i), 1);
        }
        compare(seed, park, wanted, "readPlan", random.nextInt(4));
        return text.length() + 1;
    }

    private Object[] argumentsOf(String name, PlainPark wanted) {
        Object[] arguments = new Object[ours.get(name).getParameterCount()];
        for (int i = 0; i < arguments.length; i++) {
            arguments[i] = random.nextInt(60) == 0 ? WILD[random.nextInt(WILD.length)] : argument(name, i, wanted);
        }
        if ((name.equals("fee") || name.equals("extend")) && random.nextInt(8) != 0) {
            arguments[2] = Math.min(99999, Math.max(0, (Integer) arguments[1]) + random.nextInt(4000));
        }
        return arguments;
    }

    private int argument(String name, int index, PlainPark wanted) {
        switch (name + index) {
            case "append0": return random.nextInt(130);
            case "append1": return random.nextInt(12) == 0 ? random.nextInt(93) : random.nextInt(3);
            case "fee1": case "extend1": case "unit1": return random.nextInt(random.nextBoolean() ? 5000 : 100002);
            case "unit2": return random.nextInt(103);
            case "addVoucher1": return random.nextInt(random.nextInt(4) == 0 ? 1003 : 102);
            case "makeFolder1": return random.nextInt(6) - 1;
            case "makeFolder2": case "band1": return random.nextInt(8);
            case "give1": return random.nextInt(random.nextBoolean() ? 4 : 1);
            case "put2": case "voucher0": return random.nextInt(11);
            case "enter0": case "readPlan0": return random.nextInt(40) == 0 ? 4 : random.nextInt(4);
            case "due1": return wanted.count(0) + random.nextInt(3000) - 5;
            case "ticket1": return random.nextInt(9);
            case "advance0": return random.nextInt(random.nextInt(3) == 0 ? 3003 : 40);
            case "setCapacity1": return random.nextInt(random.nextBoolean() ? 43 : 6);
            case "level1": return random.nextInt(7);
            case "forecast1": return random.nextInt(603);
            case "count0": return random.nextInt(13);
            default: return index == 0 && isTicketCall(name) ? ticket(wanted) : random.nextInt(5);
        }
    }

    private static boolean isTicketCall(String name) {
        return List.of("give", "lose", "due", "pay", "leave", "ticket", "step").contains(name);
    }

    private int ticket(PlainPark wanted) {
        int count = wanted.count(1);
        return random.nextInt(3) == 0 ? random.nextInt(count + 2) : Math.max(0, count - 1 - random.nextInt(4));
    }

    private boolean compare(int seed, ParkingTariff park, PlainPark wanted, String name, Object... arguments)
            throws Exception {
        int want = (Integer) plain.get(name).invoke(wanted, arguments);
        int got = (Integer) ours.get(name).invoke(park, arguments);
        answers.merge(name + (want < 0 ? want : " good"), 1, Integer::sum);
        Checks.due("run " + seed + ": " + name + Arrays.toString(arguments), got, want);
        return got == want;
    }

    /** A run that never meets an error says nothing about it. */
    private void everyAnswerWasSeen() {
        String[] due = {"append-2", "append-3", "readPlan-2", "readPlan-5", "readPlan good", "plan-2", "band-2", "band-1",
            "fee-2", "fee good", "unit-2", "unit good", "extend-2", "extend good", "addVoucher-2", "addVoucher-3",
            "voucher-1", "voucher-2", "makeFolder-2", "put-1", "put-6", "put good", "inFolder-1", "inFolder good",
            "enter-2", "enter-3", "enter good", "give-1", "give-4", "give-3", "give good", "lose-1", "lose-4", "lose good",
            "due-1", "due-2", "due good", "pay-1", "pay good", "leave-1", "leave-7", "leave good", "ticket-1", "ticket-2",
            "step-1", "step-4", "step good", "advance-2", "advance-3", "setCapacity-2", "setCapacity-3",
            "setCapacity good", "level-2", "forecast-2", "forecast good", "count-2", "count good", "reportCode-1",
            "reportCode good", "reportNumber-1", "reportNumber good", "save good", "restore-1", "restore good"};
        for (String answer : due) {
            Checks.due("runs with " + answer, answers.getOrDefault(answer, 0) > 0 ? 1 : 0, 1);
        }
    }

    /** Behind its 512th call an object may answer what it likes, but it answers. */
    private void longRun() throws Exception {
        for (int seed = 0; seed < 20; seed++) {
            random = new Random(-1 - seed);
            ParkingTariff park = new ParkingTariff();
            PlainPark other = new PlainPark();
            for (int i = 0; i < CALLS_OF_LONG_RUN; i++) {
                String name = i % 3 == 0 ? "enter" : i % 3 == 1 ? "leave" : names.get(random.nextInt(names.size()));
                Object[] arguments = argumentsOf(name, other);
                if (name.equals("leave")) {
                    arguments[0] = park.count(1) - 1;
                }
                ours.get(name).invoke(park, arguments);
            }
        }
    }
}
