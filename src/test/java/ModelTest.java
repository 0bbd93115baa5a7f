import java.util.ArrayList;
import java.util.List;
import java.util.Random;

/** Runs of calls with written-down seeds on BusLifts and on PlainLifts, answer by answer. */
public final class ModelTest {
    /** Each method with the kinds of its arguments, some of them more than once to be called more often. */
    private static final String[] METHODS = {
        "errorCode", "errorOffset", "count w", "car c w", "call k w", "waitOf k", "holds c k", "ownCost c k",
        "decides c k", "noted c k c", "costNow c k", "held c i", "goal c", "messages m b", "hasLost c k m", "nobody m",
        "makeCall f f", "makeCall f f", "makeCall f f", "run t", "run t", "run t", "run t", "run t", "run t",
        "setStopped c b", "setStopped c b", "setJammed c b", "setJammed c b", "set s v", "set s v", "forget c k",
        "forget c k", "longestWait", "meanWait", "lateShare", "doubles", "orphans", "ride k", "busiest",
        "fullestFloor", "riders c", "served c", "meanRide", "knownBest c k", "cheapest f", "allRounds", "claimLeft k",
        "lateIn T", "crowd f b", "meanCost k", "waitsWithin l l", "mostRounds", "aboardIn k T", "doneIn T",
        "nobodyIn T", "bestNoise t", "wouldWait f f", "bestPatience t", "printCar c", "outputByte i", "undo", "undo",
        "saveState", "restoreState", "loadLifts"};
    /** What makes cars meet at the same calls, some ticks at a time. */
    private static final String[] BUSY_METHODS = {"run u", "run u", "run u", "run u", "run u", "run u", "setStopped c b",
        "setStopped c b", "setJammed c b", "setJammed c b", "makeCall f f", "forget c k", "nobodyIn T", "aboardIn k T", "undo"};

    private final Random random;
    private final Twins twins;
    private final BusLifts lifts;
    private int floors = 2;
    private int cars = 1;

    private ModelTest(long seed, Due due) {
        random = new Random(seed);
        twins = new Twins(due);
        lifts = twins.lifts;
    }

    public static void main(String[] arguments) {
        int runs = arguments.length > 0 ? Integer.parseInt(arguments[0]) : 60;
        Due due = new Due();
        for (int run = 0; run < runs; run++) {
            new ModelTest(run, due).play(run);
        }
        for (int run = 0; run < 5 * runs; run++) {
            new ModelTest(run, due).playBusy(run);
        }
        for (int run = 0; run < 40 * runs; run++) {
            new ModelTest(run, due).playText(run);
        }
        due.end();
    }

    private void play(int run) {
        if (run % 10 != 0) {
            twins.feed(setup());
            step(run, -1, "loadLifts");
        }
        for (int number = 0; number < 120; number++) {
            if (random.nextInt(60) == 0) {
                twins.feed(random.nextInt(3) == 0 ? spoiled(setup()) : setup());
                step(run, number, "loadLifts");
            }
            step(run, number, METHODS[random.nextInt(METHODS.length)]);
            if (number % 8 == 0) {
                askAll(run, number);
            }
        }
        askAll(run, 120);
    }

    private void playBusy(int run) {
        floors = 4 + random.nextInt(9);
        cars = 2 + random.nextInt(3);
        StringBuilder text = new StringBuilder("floors ").append(floors).append(";");
        for (int car = 0; car < cars; car++) {
            text.append("car ").append(random.nextInt(floors)).append(' ').append(1 + random.nextInt(3)).append(';');
        }
        int calls = 2 + random.nextInt(12);
        for (int call = 0; call < calls; call++) {
            int from = random.nextInt(floors);
            int to = (from + 1 + random.nextInt(floors - 1)) % floors;
            text.append("call ").append(random.nextInt(20)).append(' ').append(from).append(' ').append(to).append(';');
        }
        text.append("noise ").append(random.nextInt(61)).append(";patience ").append(3 + random.nextInt(3));
        text.append(";seed ").append(random.nextInt(10000)).append(";door ").append(random.nextInt(3)).append(';');
        twins.feed(text.toString());
        step(run, -1, "loadLifts");
        for (int number = 0; number < 50; number++) {
            step(run, number, BUSY_METHODS[random.nextInt(BUSY_METHODS.length)]);
            if (number % 5 == 0) {
                askAll(run, number);
            }
        }
    }

    private void playText(int run) {
        for (int number = 0; number < 5; number++) {
            twins.feed(spoiled(setup()));
            step(run, number, "loadLifts");
            step(run, number, "errorCode");
            step(run, number, "errorOffset");
        }
        askAll(run, 5);
    }

    private String setup() {
        StringBuilder text = new StringBuilder();
        floors = 2 + random.nextInt(random.nextBoolean() ? 29 : 9);
        text.append("floors ").append(floors).append(";");
        List<String> parts = new ArrayList<>();
        cars = 1 + random.nextInt(4);
        for (int car = 0; car < cars; car++) {
            parts.add("car " + random.nextInt(floors) + " " + (1 + random.nextInt(random.nextBoolean() ? 2 : 8)) + ";");
        }
        int calls = random.nextInt(25);
        int span = 1 + random.nextInt(60);
        for (int call = 0; call < calls; call++) {
            int from = random.nextInt(floors);
            int to = (from + 1 + random.nextInt(floors - 1)) % floors;
            parts.add("call " + random.nextInt(span) + " " + from + " " + to + ";\n");
        }
        add(parts, "noise ", random.nextInt(random.nextBoolean() ? 91 : 40));
        add(parts, "seed ", random.nextInt(10000));
        add(parts, "patience ", 3 + random.nextInt(random.nextBoolean() ? 48 : 6));
        add(parts, "weight ", random.nextInt(21));
        add(parts, "door ", random.nextInt(6));
        add(parts, "bound ", 1 + random.nextInt(60));
        java.util.Collections.shuffle(parts, random);
        parts.forEach(text::append);
        return text.toString();
    }

    private void add(List<String> parts, String word, int value) {
        if (random.nextInt(3) != 0) {
            parts.add(word + value + " ; ");
        }
    }

    /** The text with a small fault or a harmless change at some place. */
    private String spoiled(String text) {
        String[] pieces = {"", " ", ";", "0", "9", "00", "12345", "floors", "car 0 1;", "call 0 0 1;", "noise 5;", "door",
            "x", "A", "\n", "\t", "\u00ff", "-", "seed 1;", "bound 0;"};
        int at = random.nextInt(text.length() + 1);
        int end = Math.min(text.length(), at + random.nextInt(3));
        String piece = pieces[random.nextInt(pieces.length)];
        return switch (random.nextInt(8)) {
            case 0 -> text;
            case 1 -> text.substring(0, at);
            case 2 -> text.substring(at);
            case 3 -> text + piece;
            default -> text.substring(0, at) + piece + text.substring(end);
        };
    }

    private void step(int run, int number, String method) {
        String[] parts = method.split(" ");
        Object[] values = new Object[parts.length - 1];
        for (int index = 1; index < parts.length; index++) {
            values[index - 1] = argument(parts[index].charAt(0));
        }
        twins.compare("run " + run + " step " + number + " " + method + " " + java.util.Arrays.toString(values), parts[0], values);
    }

    private Object argument(char kind) {
        boolean wild = random.nextInt(25) == 0;
        int calls = lifts.count(2);
        return switch (kind) {
            case 'b' -> random.nextBoolean();
            case 'c' -> wild ? random.nextInt(9) - 3 : random.nextInt(cars);
            case 'k' -> wild || calls == 0 ? random.nextInt(30) - 3 : random.nextInt(calls);
            case 'w' -> random.nextInt(16) - 1;
            case 'i' -> random.nextInt(12) - 1;
            case 'm' -> random.nextInt(7) - 2;
            case 'f' -> wild ? random.nextInt(36) - 3 : random.nextInt(floors);
            case 't' -> wild ? random.nextInt(600) - 20 : 1 + random.nextInt(random.nextInt(40) + 1);
            case 'u' -> 1 + random.nextInt(3);
            case 'T' -> wild ? random.nextInt(600) - 20 : 1 + random.nextInt(120);
            case 's' -> random.nextInt(7) - 1;
            case 'v' -> random.nextInt(random.nextBoolean() ? 8 : 110) - 1;
            default -> wild ? random.nextInt() : random.nextInt(50) - 5;
        };
    }

    private void askAll(int run, int number) {
        String what = "run " + run + " behind step " + number + " ";
        for (int index = 0; index <= 13; index++) {
            twins.compare(what + "count " + index, "count", index);
        }
        for (int kind = 0; kind <= 3; kind++) {
            twins.compare(what + "sent " + kind, "messages", kind, false);
            twins.compare(what + "lost " + kind, "messages", kind, true);
            twins.compare(what + "nobody " + kind, "nobody", kind + 1);
        }
        for (int car = 0; car < lifts.count(1); car++) {
            for (int index = 0; index <= 9; index++) {
                twins.compare(what + "car " + car + " " + index, "car", car, index);
            }
            twins.compare(what + "goal " + car, "goal", car);
            twins.compare(what + "riders " + car, "riders", car);
        }
        for (int call = 0; call < lifts.count(2); call++) {
            for (int index = 0; index <= 10; index++) {
                twins.compare(what + "call " + call + " " + index, "call", call, index);
            }
            for (int car = 0; car < lifts.count(1); car++) {
                askBoth(what + "car " + car + " call " + call + " ", car, call);
            }
        }
    }

    private void askBoth(String what, int car, int call) {
        for (String method : new String[] {"holds", "ownCost", "decides", "knownBest"}) {
            twins.compare(what + method, method, car, call);
        }
        for (int kind = 0; kind <= 3; kind++) {
            twins.compare(what + "hasLost " + kind, "hasLost", car, call, kind);
        }
        for (int other = 0; other < lifts.count(1); other++) {
            twins.compare(what + "noted " + other, "noted", car, call, other);
        }
    }
}
