import java.lang.reflect.Field;
import java.lang.reflect.Method;
import java.lang.reflect.Modifier;
import java.util.Arrays;
import java.util.TreeSet;

/** The public face of the document, and that nothing else stands beside it. */
public final class FaceTest {
    private static final String FACE = "appendInput(int,int,int,int,int):int truncateInput(int):boolean loadLifts():int "
        + "errorCode():int errorOffset():int count(int):int car(int,int):int call(int,int):int waitOf(int):int "
        + "holds(int,int):boolean ownCost(int,int):int decides(int,int):int noted(int,int,int):int costNow(int,int):int "
        + "held(int,int):int goal(int):int messages(int,boolean):int hasLost(int,int,int):boolean nobody(int):int "
        + "makeCall(int,int):int run(int):int setStopped(int,boolean):boolean setJammed(int,boolean):boolean "
        + "set(int,int):int forget(int,int):int longestWait():int meanWait():double lateShare():float doubles():int "
        + "orphans():int ride(int):int busiest():int fullestFloor():int riders(int):int served(int):int meanRide():double "
        + "knownBest(int,int):int cheapest(int):int allRounds():int claimLeft(int):int lateIn(int):int "
        + "crowd(int,boolean):int meanCost(int):double waitsWithin(int,int):int mostRounds():int aboardIn(int,int):int "
        + "doneIn(int):int nobodyIn(int):int bestNoise(int):int wouldWait(int,int):int bestPatience(int):int "
        + "printCar(int):int outputByte(int):int undo():int saveState():int restoreState():int";

    // The methods with exceptions: I an index, A an argument, S a state, N no such element.
    private static final String THROWS = "count:A car:IA call:IA waitOf:I holds:I ownCost:I decides:I noted:I costNow:I "
        + "held:IN goal:I messages:A hasLost:IA nobody:A makeCall:AS run:A setStopped:I setJammed:I set:A forget:IS ride:I "
        + "riders:I served:I knownBest:I cheapest:A claimLeft:I lateIn:A crowd:A meanCost:I aboardIn:IA doneIn:A "
        + "nobodyIn:A bestNoise:A wouldWait:A bestPatience:A printCar:I restoreState:S";

    public static void main(String[] arguments) throws IllegalAccessException {
        Due due = new Due();
        due.promise(0, "the public face");
        TreeSet<String> methods = new TreeSet<>();
        TreeSet<String> names = new TreeSet<>();
        for (Method method : BusLifts.class.getDeclaredMethods()) {
            if (!Modifier.isPrivate(method.getModifiers()) && !method.isSynthetic()) {
                String types = Arrays.toString(Arrays.stream(method.getParameterTypes()).map(Class::getName).toArray());
                methods.add(method.getName() + "(" + types.replaceAll("[\\[\\] ]", "") + "):" + method.getReturnType());
                names.add(method.getName());
            }
        }
        due.isText("the methods", methods.toString(), new TreeSet<>(Arrays.asList(FACE.split(" "))).toString());
        due.is("the methods have different names", names.size(), methods.size());
        for (Method method : BusLifts.class.getDeclaredMethods()) {
            if (Modifier.isPrivate(method.getModifiers())) {
                due.is("a private method named " + method.getName(), names.contains(method.getName()), false);
            }
        }
        due.isText("the exceptions", exceptions().toString(), new TreeSet<>(Arrays.asList(THROWS.split(" "))).toString());
        due.is("constructors", BusLifts.class.getDeclaredConstructors().length, 1);
        due.is("the class is public and final", BusLifts.class.getModifiers(), Modifier.PUBLIC | Modifier.FINAL);

        TreeSet<String> fields = new TreeSet<>();
        for (Field field : BusLifts.class.getDeclaredFields()) {
            if (!Modifier.isPrivate(field.getModifiers())) {
                fields.add(field.getName() + "=" + field.getInt(null));
            }
        }
        due.isText("the constants", fields.toString(), "[MISPLACED=3, NO_CAR=4, NO_ERROR=0, OUT_OF_RANGE=2, SYNTAX=1]");
        due.end();
    }

    private static TreeSet<String> exceptions() {
        TreeSet<String> found = new TreeSet<>();
        for (Method method : BusLifts.class.getDeclaredMethods()) {
            if (Modifier.isPublic(method.getModifiers()) && method.getExceptionTypes().length > 0) {
                StringBuilder signs = new StringBuilder(method.getName()).append(':');
                for (Class<?> type : method.getExceptionTypes()) {
                    signs.append(sign(type));
                }
                found.add(signs.toString());
            }
        }
        return found;
    }

    private static String sign(Class<?> type) {
        return switch (type.getName()) {
            case "java.lang.IndexOutOfBoundsException" -> "I";
            case "java.lang.IllegalArgumentException" -> "A";
            case "java.lang.IllegalStateException" -> "S";
            case "java.util.NoSuchElementException" -> "N";
            default -> type.getName();
        };
    }
}
