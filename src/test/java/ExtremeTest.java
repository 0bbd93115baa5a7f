import java.lang.reflect.Method;
import java.util.Arrays;

/**
 * Every method with every mixture of extreme arguments, in some states: it answers as PlainLifts does, and what it
 * throws is a class that its face names, itself and no class below it.
 */
public final class ExtremeTest {
    private static final int[] NUMBERS = {Integer.MIN_VALUE, Integer.MIN_VALUE + 1, -501, -25, -2, -1, 0, 1, 2, 3, 4, 5, 9, 13,
        14, 20, 23, 24, 29, 30, 50, 90, 91, 499, 500, 501, 700, 999, 1000, 65536, Integer.MAX_VALUE - 1, Integer.MAX_VALUE};
    private static final String[] SETUPS = {"floors 2;car 0 1;",
        "floors 10;car 0 2;car 8 2;car 4 1;noise 45;seed 379;patience 4;call 0 4 8;call 0 4 0;call 1 9 0;call 2 1 8;",
        "floors 30;car 0 8;car 29 1;car 15 1;car 7 2;noise 20;patience 3;" + "call 0 29 0;call 0 0 29;call 5 14 15;".repeat(8)};
    /** Objects are used for at most 512 calls. */
    private static final int MOST_CALLS = 100;

    private static final Due due = new Due();

    private final String setup;
    private Twins twins = new Twins(due);
    private int calls;

    private ExtremeTest(String setup) {
        this.setup = setup;
        renew();
    }

    public static void main(String[] arguments) {
        due.promise(0, "no call throws by itself");
        for (String setup : SETUPS) {
            for (Method method : Twins.REAL.values()) {
                ExtremeTest test = new ExtremeTest(setup);
                test.mix(method, new Object[method.getParameterCount()], 0);
            }
        }
        due.end();
    }

    private void renew() {
        twins = new Twins(due);
        twins.feed(setup);
        twins.compare("a load", "loadLifts");
        twins.compare("some ticks", "run", 9);
        twins.compare("a print", "printCar", 0);
        twins.compare("some bytes", "appendInput", 1, 2, 3, 4, 5);
        calls = 0;
    }

    /** Fills in the arguments from a place on. */
    private void mix(Method method, Object[] values, int place) {
        if (place == values.length) {
            ask(method, values);
        } else if (method.getParameterTypes()[place] == boolean.class) {
            for (boolean value : new boolean[] {false, true}) {
                values[place] = value;
                mix(method, values, place + 1);
            }
        } else {
            // Five numbers that are nothing but bytes need not be mixed.
            for (int index = 0; index < (place > 2 ? 1 : NUMBERS.length); index++) {
                values[place] = NUMBERS[index];
                mix(method, values, place + 1);
            }
        }
    }

    private void ask(Method method, Object[] values) {
        if (calls >= MOST_CALLS) {
            renew();
        }
        calls++;
        String what = method.getName() + Arrays.toString(values);
        boolean isLong = isLong(method, values);
        String answer = isLong ? Twins.answer(twins.lifts, Twins.REAL, method.getName(), values)
            : twins.compare(what, method.getName(), values);
        boolean named = !answer.startsWith("throws ");
        for (Class<?> type : method.getExceptionTypes()) {
            named |= answer.equals("throws " + type.getName());
        }
        due.is(what + " answers " + answer + ", as its face says", named, true);
    }

    /** What would take PlainLifts too long. */
    private static boolean isLong(Method method, Object[] values) {
        return method.getName().startsWith("best") && (int) values[0] > 90;
    }
}
