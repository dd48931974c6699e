import java.lang.reflect.Method;
import java.lang.reflect.Modifier;
import java.lang.reflect.Field;
import java.util.Arrays;
import java.util.Set;
import java.util.TreeSet;

/** The face of the class, and that no argument makes a call throw. */
public final class FaceTest {
    private static final Checks C = new Checks();
    private static final int[] ODD = {
        Integer.MIN_VALUE, Integer.MIN_VALUE + 1, -100, -6, -5, -4, -1, 0, 1, 2, 3, 4, 5, 6, 9, 10, 13, 14, 15, 16,
        60, 61, 99, 100, 398, 399, 400, Integer.MAX_VALUE - 1, Integer.MAX_VALUE};

    public static void main(String[] args) throws ReflectiveOperationException {
        face();
        oddArguments(false);
        oddArguments(true);
        C.finish();
    }

    private static void face() {
        C.test("the public face");
        Set<String> methods = new TreeSet<>();
        boolean privateTwin = false;
        for (Method method : DrillWardens.class.getDeclaredMethods()) {
            if (Modifier.isPublic(method.getModifiers())) {
                methods.add(method.getName() + method.getParameterCount());
            } else if (!method.isSynthetic() && !Modifier.isPrivate(method.getModifiers())) {
                C.holds(method.getName() + " is public or private", false);
            }
        }
        Set<String> want = new TreeSet<>(Arrays.asList("enlist2", "strike2", "setNeed2", "train2", "set2", "leave3",
                "takeBack2", "drill2", "pass1", "type1", "clearText0", "perform0", "stopped1", "undo0", "keep0",
                "restore0", "warden3", "staff3", "floor2", "row2", "person2", "log3", "due1", "reason3",
                "firstShort1", "load2", "ifLeft3", "bestDay1", "count1"));
        C.holds("the methods are " + methods, methods.equals(want));
        for (Method method : DrillWardens.class.getDeclaredMethods()) {
            privateTwin |= Modifier.isPrivate(method.getModifiers())
                    && want.stream().anyMatch(w -> w.substring(0, w.length() - 1).equals(method.getName()));
        }
        C.holds("no private method bears the name of a public one", !privateTwin);
        C.holds("the class is public and final",
                Modifier.isPublic(DrillWardens.class.getModifiers())
                        && Modifier.isFinal(DrillWardens.class.getModifiers()));
        Set<String> constants = new TreeSet<>();
        for (Field field : DrillWardens.class.getDeclaredFields()) {
            if (!Modifier.isPrivate(field.getModifiers())) {
                constants.add(field.getName());
            }
            C.holds(field.getName() + ": a static field is final",
                    !Modifier.isStatic(field.getModifiers()) || Modifier.isFinal(field.getModifiers()));
        }
        C.holds("the constants are " + constants, constants.equals(new TreeSet<>(
                Arrays.asList("UNKNOWN", "BAD_VALUE", "FULL", "NOT_POSSIBLE", "NONE", "REFUSED"))));
    }

    private static void oddArguments(boolean used) throws ReflectiveOperationException {
        C.test("odd arguments never throw, object " + (used ? "used" : "new"));
        for (Method method : DrillWardens.class.getDeclaredMethods()) {
            if (Modifier.isPublic(method.getModifiers())) {
                oddArguments(method, used);
            }
        }
    }

    private static void oddArguments(Method method, boolean used) throws ReflectiveOperationException {
        int many = method.getParameterCount();
        int all = 1;
        for (int i = 0; i < many; i++) {
            all *= ODD.length;
        }
        DrillWardens x = null;
        for (int i = 0; i < all; i++) {
            if (i % 400 == 0) {
                x = fresh(used);
            }
            Object[] arguments = new Object[many];
            int rest = i;
            for (int a = 0; a < many; a++) {
                int value = ODD[rest % ODD.length];
                rest /= ODD.length;
                arguments[a] = method.getParameterTypes()[a] == char.class ? (Object) (char) value : (Object) value;
            }
            int answer = (Integer) method.invoke(x, arguments);
            C.holds(method.getName() + Arrays.toString(arguments) + " answered " + answer,
                    answer >= DrillWardens.REFUSED || method.getName().equals("perform") && answer >= -180);
        }
    }

    private static DrillWardens fresh(boolean used) {
        DrillWardens x = new DrillWardens();
        if (used) {
            for (int floor = 0; floor < 10; floor++) {
                Checks.enlist(x, floor, floor, floor + 1, floor + 2, floor + 3, floor + 4);
            }
            x.set(0, 2);
            x.set(1, 1);
            x.leave(3, 0, 50);
            x.drill(2, 5);
            x.keep();
            x.pass(40);
            x.set(2, 1);
            Checks.write(x, "drill 2 5;row 9 9;pass");
        }
        return x;
    }
}
