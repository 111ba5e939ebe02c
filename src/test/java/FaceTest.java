import java.lang.reflect.Constructor;
import java.lang.reflect.Field;
import java.lang.reflect.Method;
import java.lang.reflect.Modifier;
import java.util.Arrays;
import java.util.TreeSet;

/** The public face: its constants, constructor and methods, with the signatures of the promises, and nothing else. */
public final class FaceTest {
    private static final String[] METHODS = {
        "append(2)", "readPlan(1)", "plan(2)", "band(3)", "fee(3)", "unit(4)", "extend(3)", "addVoucher(2)",
        "voucher(2)", "makeFolder(3)", "put(3)", "inFolder(2)", "enter(1)", "give(3)", "lose(1)", "due(2)",
        "pay(1)", "leave(1)", "ticket(2)", "step(2)", "advance(1)", "setCapacity(2)", "level(2)", "forecast(2)",
        "count(1)", "reportLevels(0)", "reportCode(1)", "reportNumber(1)", "save(0)", "restore(0)"};
    private static final String[] CONSTANTS = {
        "NONE", "BAD_ARGUMENT", "FULL", "STATE", "BAD_TEXT", "WRONG_KIND", "DUE"};

    public static void main(String[] args) throws Exception {
        constants();
        members();
        namesOfPrivateMethods();
        Checks.end();
    }

    private static void constants() throws Exception {
        for (int i = 0; i < CONSTANTS.length; i++) {
            Checks.due(CONSTANTS[i], ParkingTariff.class.getField(CONSTANTS[i]).getInt(null), -1 - i);
        }
    }

    private static void members() {
        Class<?> face = ParkingTariff.class;
        Checks.due("final", Modifier.isFinal(face.getModifiers()) ? 1 : 0, 1);
        TreeSet<String> methods = new TreeSet<>();
        for (Method method : face.getDeclaredMethods()) {
            if (!Modifier.isPrivate(method.getModifiers()) && !method.isSynthetic()) {
                methods.add(method.getName() + "(" + method.getParameterCount() + ")");
                Checks.due(method.getName() + " is public", method.getModifiers(), Modifier.PUBLIC);
                Checks.due(method.getName() + " returns int", method.getReturnType() == int.class ? 1 : 0, 1);
                for (Class<?> type : method.getParameterTypes()) {
                    Checks.due(method.getName() + " takes int", type == int.class ? 1 : 0, 1);
                }
            }
        }
        same("methods", methods, METHODS);
        TreeSet<String> fields = new TreeSet<>();
        for (Field field : face.getDeclaredFields()) {
            if (!Modifier.isPrivate(field.getModifiers())) {
                fields.add(field.getName());
                Checks.due(field.getName() + " is a constant", field.getModifiers(),
                        Modifier.PUBLIC | Modifier.STATIC | Modifier.FINAL);
                Checks.due(field.getName() + " is an int", field.getType() == int.class ? 1 : 0, 1);
            }
        }
        same("constants", fields, CONSTANTS);
        Constructor<?>[] constructors = face.getDeclaredConstructors();
        Checks.due("constructors", constructors.length, 1);
        Checks.due("its parameters", constructors[0].getParameterCount(), 0);
        Checks.due("it is public", constructors[0].getModifiers(), Modifier.PUBLIC);
    }

    private static void namesOfPrivateMethods() {
        TreeSet<String> names = new TreeSet<>();
        for (String method : METHODS) {
            names.add(method.substring(0, method.indexOf('(')));
        }
        for (Method method : ParkingTariff.class.getDeclaredMethods()) {
            boolean clash = Modifier.isPrivate(method.getModifiers()) && names.contains(method.getName());
            Checks.due("a private method named " + method.getName(), clash ? 1 : 0, 0);
        }
    }

    private static void same(String what, TreeSet<String> got, String[] want) {
        TreeSet<String> due = new TreeSet<>(Arrays.asList(want));
        if (!got.equals(due)) {
            System.out.println(what + ": " + got + ", due is " + due);
        }
        Checks.due(what, got.equals(due) ? 1 : 0, 1);
    }
}
