import java.lang.reflect.InvocationTargetException;
import java.lang.reflect.Method;
import java.lang.reflect.Modifier;
import java.util.ArrayList;
import java.util.HashMap;
import java.util.List;
import java.util.Map;
import java.util.Random;

/** Runs of calls with written-down seeds on BusLifts and on PlainLifts, answer by answer. */
public final class ModelTest {
    /** Each method with the kinds of its arguments, some of them more than once to be called more often. */
    private static final String[] METHODS = {
        "errorCode", "errorOffset", "count w", "car c w", "call k w", "waitOf k", "holds c k", "ownCost c k",
        "decides c k", "noted c k c", "costNow c k", "held c i", "goal c", "messages m b", "hasLost c k m", "nobody m",
        "makeCall f f", "makeCall f f", "makeCall f f", "run t", "run t", "run t", "run t", "run t", "run t",
        "setStopped c b", "setStopped c b", "setJammed c b", "setJammed c b", "set s v", "set s v", "forget c k",
        "forget c k", "longestWait", "meanWait", "lateShare", "doubles", "orphans", "ride k", "busiest",
        "fullestFloor", "riders c", "served c", "meanRide", "knownBest c k", "cheapest f", "allRounds", "claimLeft k",
        "lateIn T", "crowd f b", "meanCost k", "waitsWithin l l", "mostRounds", "aboardIn k T", "doneIn T",
        "nobodyIn T", "bestNoise t", "wouldWait f f", "bestPatience t", "printCar c", "outputByte i", "undo", "undo",
        "saveState", "restoreState", "loadLifts"};

    private static final Map<String, Method> REAL = publicMethods(BusLifts.class);
    private static final Map<String, Method> PLAIN = publicMethods(PlainLifts.class);

    private final Random random;
    private final BusLifts lifts = new BusLifts();
    private final PlainLifts plain = new PlainLifts();
    private int floors = 2;
    private int cars = 1;
    private final Due due;

    private ModelTest(long seed, Due due) {
        random = new Random(seed);
        this.due = due;
    }

    public static void main(String[] arguments) {
        int runs = arguments.length > 0 ? Integer.parseInt(arguments[0]) : 60;
        Due due = new Due();
        for (int run = 0; run < runs; run++) {
            new ModelTest(run, due).play(run);
        }
        for (int run = 0; run < 40 * runs; run++) {
            new ModelTest(run, due).playText(run);
        }
        due.end();
    }

    private void play(int run) {
        if (run % 10 != 0) {
            feed(setup());
            step(run, -1, "loadLifts");
        }
        for (int number = 0; number < 120; number++) {
            if (random.nextInt(60) == 0) {
                feed(random.nextInt(3) == 0 ? spoiled(setup()) : setup());
                step(run, number, "loadLifts");
            }
            step(run, number, METHODS[random.nextInt(METHODS.length)]);
            if (number % 8 == 0) {
                askAll(run, number);
            }
        }
        askAll(run, 120);
    }

    private void playText(int run) {
        for (int number = 0; number < 5; number++) {
            feed(spoiled(setup()));
            step(run, number, "loadLifts");
            step(run, number, "errorCode");
            step(run, number, "errorOffset");
        }
        askAll(run, 5);
    }

    private void feed(String text) {
        byte[] bytes = new byte[(text.length() + 19) / 20 * 20];
        for (int index = 0; index < text.length(); index++) {
            bytes[index] = (byte) text.charAt(index);
        }
        java.nio.ByteBuffer words = java.nio.ByteBuffer.wrap(bytes);
        while (words.hasRemaining()) {
            Object[] five = new Object[5];
            for (int word = 0; word < 5; word++) {
                five[word] = words.getInt();
            }
            compare("appendInput", "appendInput", five);
        }
        compare("truncateInput", "truncateInput", new Object[] {Math.min(text.length(), 700)});
    }

    private String setup() {
        StringBuilder text = new StringBuilder();
        floors = 2 + random.nextInt(random.nextBoolean() ? 29 : 9);
        text.append("floors ").append(floors).append(";");
        List<String> parts = new ArrayList<>();
        cars = 1 + random.nextInt(4);
        for (int car = 0; car < cars; car++) {
            parts.add("car " + random.nextInt(floors) + " " + (1 + random.nextInt(random.nextBoolean() ? 2 : 8)) + ";");
        }
        int calls = random.nextInt(25);
        int span = 1 + random.nextInt(60);
        for (int call = 0; call < calls; call++) {
            int from = random.nextInt(floors);
            int to = (from + 1 + random.nextInt(floors - 1)) % floors;
            parts.add("call " + random.nextInt(span) + " " + from + " " + to + ";\n");
        }
        add(parts, "noise ", random.nextInt(random.nextBoolean() ? 91 : 40));
        add(parts, "seed ", random.nextInt(10000));
        add(parts, "patience ", 3 + random.nextInt(random.nextBoolean() ? 48 : 6));
        add(parts, "weight ", random.nextInt(21));
        add(parts, "door ", random.nextInt(6));
        add(parts, "bound ", 1 + random.nextInt(60));
        java.util.Collections.shuffle(parts, random);
        parts.forEach(text::append);
        return text.toString();
    }

    private void add(List<String> parts, String word, int value) {
        if (random.nextInt(3) != 0) {
            parts.add(word + value + " ; ");
        }
    }

    /** The text with a small fault or a harmless change at some place. */
    private String spoiled(String text) {
        String[] pieces = {"", " ", ";", "0", "9", "00", "12345", "floors", "car 0 1;", "call 0 0 1;", "noise 5;", "door",
            "x", "A", "\n", "\t", "\u00ff", "-", "seed 1;", "bound 0;"};
        int at = random.nextInt(text.length() + 1);
        int end = Math.min(text.length(), at + random.nextInt(3));
        String piece = pieces[random.nextInt(pieces.length)];
        return switch (random.nextInt(8)) {
            case 0 -> text;
            case 1 -> text.substring(0, at);
            case 2 -> text.substring(at);
            case 3 -> text + piece;
            default -> text.substring(0, at) + piece + text.substring(end);
        };
    }

    private void step(int run, int number, String method) {
        String[] parts = method.split(" ");
        Object[] values = new Object[parts.length - 1];
        for (int index = 1; index < parts.length; index++) {
            values[index - 1] = argument(parts[index].charAt(0));
        }
        compare("run " + run + " step " + number + " " + method + " " + java.util.Arrays.toString(values), parts[0], values);
    }

    private Object argument(char kind) {
        boolean wild = random.nextInt(25) == 0;
        int calls = lifts.count(2);
        return switch (kind) {
            case 'b' -> random.nextBoolean();
            case 'c' -> wild ? random.nextInt(9) - 3 : random.nextInt(cars);
            case 'k' -> wild || calls == 0 ? random.nextInt(30) - 3 : random.nextInt(calls);
            case 'w' -> random.nextInt(16) - 1;
            case 'i' -> random.nextInt(12) - 1;
            case 'm' -> random.nextInt(7) - 2;
            case 'f' -> wild ? random.nextInt(36) - 3 : random.nextInt(floors);
            case 't' -> wild ? random.nextInt(600) - 20 : 1 + random.nextInt(random.nextInt(40) + 1);
            case 'T' -> wild ? random.nextInt(600) - 20 : 1 + random.nextInt(120);
            case 's' -> random.nextInt(7) - 1;
            case 'v' -> random.nextInt(random.nextBoolean() ? 8 : 110) - 1;
            default -> wild ? random.nextInt() : random.nextInt(50) - 5;
        };
    }

    private void compare(String what, String method, Object[] values) {
        due.isText(what, answer(lifts, REAL, method, values), answer(plain, PLAIN, method, values));
    }

    private static Map<String, Method> publicMethods(Class<?> type) {
        Map<String, Method> found = new HashMap<>();
        for (Method method : type.getDeclaredMethods()) {
            if (Modifier.isPublic(method.getModifiers())) {
                found.put(method.getName(), method);
            }
        }
        return found;
    }

    private static String answer(Object asked, Map<String, Method> methods, String name, Object[] values) {
        try {
            return String.valueOf(methods.get(name).invoke(asked, values));
        } catch (InvocationTargetException thrown) {
            return "throws " + thrown.getCause().getClass().getName();
        } catch (IllegalAccessException never) {
            throw new AssertionError(never);
        }
    }

    private void askAll(int run, int number) {
        String what = "run " + run + " behind step " + number + " ";
        for (int index = 0; index <= 13; index++) {
            compare(what + "count " + index, "count", new Object[] {index});
        }
        for (int kind = 0; kind <= 3; kind++) {
            compare(what + "sent " + kind, "messages", new Object[] {kind, false});
            compare(what + "lost " + kind, "messages", new Object[] {kind, true});
            compare(what + "nobody " + kind, "nobody", new Object[] {kind + 1});
        }
        for (int car = 0; car < lifts.count(1); car++) {
            for (int index = 0; index <= 9; index++) {
                compare(what + "car " + car + " " + index, "car", new Object[] {car, index});
            }
            compare(what + "goal " + car, "goal", new Object[] {car});
            compare(what + "riders " + car, "riders", new Object[] {car});
        }
        for (int call = 0; call < lifts.count(2); call++) {
            for (int index = 0; index <= 10; index++) {
                compare(what + "call " + call + " " + index, "call", new Object[] {call, index});
            }
            for (int car = 0; car < lifts.count(1); car++) {
                askBoth(what + "car " + car + " call " + call + " ", car, call);
            }
        }
    }

    private void askBoth(String what, int car, int call) {
        for (String method : new String[] {"holds", "ownCost", "decides", "knownBest"}) {
            compare(what + method, method, new Object[] {car, call});
        }
        for (int kind = 0; kind <= 3; kind++) {
            compare(what + "hasLost " + kind, "hasLost", new Object[] {car, call, kind});
        }
        for (int other = 0; other < lifts.count(1); other++) {
            compare(what + "noted " + other, "noted", new Object[] {car, call, other});
        }
    }
}
