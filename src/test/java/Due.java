import java.util.Locale;

/** Counts and prints the answers that are not as due, and feeds texts to the input buffer. */
final class Due {
    private int asked;
    private int wrong;
    private String promise = "";

    void promise(int number, String name) {
        promise = "promise " + number + " (" + name + ")";
    }

    void is(String what, long got, long want) {
        check(what, got == want, String.valueOf(got), String.valueOf(want));
    }

    void is(String what, boolean got, boolean want) {
        check(what, got == want, String.valueOf(got), String.valueOf(want));
    }

    void isReal(String what, double got, double want) {
        check(what, Double.compare(got, want) == 0, String.valueOf(got), String.valueOf(want));
    }

    void isText(String what, String got, String want) {
        check(what, got.equals(want), got, want);
    }

    void isThrown(String what, Class<?> want, Runnable call) {
        String got = "nothing";
        try {
            call.run();
        } catch (RuntimeException thrown) {
            got = thrown.getClass().getName();
        }
        check(what, got.equals(want.getName()), got, want.getName());
    }

    private void check(String what, boolean right, String got, String want) {
        asked++;
        if (!right) {
            wrong++;
            if (wrong <= 50) {
                System.out.println(String.format(Locale.ROOT, "%s: %s answered %s, due is %s", promise, what, got, want));
            }
        }
    }

    void end() {
        System.out.println(asked + " answers asked, " + wrong + " not as due");
        if (wrong != 0 || asked == 0) {
            System.exit(1);
        }
    }

    /** Puts a text of at most 700 signs into the input buffer, in place of what it had. */
    static void feed(BusLifts lifts, String text) {
        lifts.truncateInput(0);
        byte[] bytes = new byte[(text.length() + 19) / 20 * 20];
        for (int index = 0; index < text.length(); index++) {
            bytes[index] = (byte) text.charAt(index);
        }
        for (int at = 0; at < bytes.length; at += 20) {
            lifts.appendInput(word(bytes, at), word(bytes, at + 4), word(bytes, at + 8), word(bytes, at + 12),
                word(bytes, at + 16));
        }
        lifts.truncateInput(text.length());
    }

    private static int word(byte[] bytes, int at) {
        return (bytes[at] & 255) << 24 | (bytes[at + 1] & 255) << 16 | (bytes[at + 2] & 255) << 8 | bytes[at + 3] & 255;
    }

    static int load(BusLifts lifts, String text) {
        feed(lifts, text);
        return lifts.loadLifts();
    }

    static BusLifts loaded(String text) {
        BusLifts lifts = new BusLifts();
        if (load(lifts, text) < 1) {
            throw new IllegalStateException("the text does not load: " + text);
        }
        return lifts;
    }

    static BusLifts behind(int ticks, String text) {
        BusLifts lifts = loaded(text);
        for (int left = ticks; left > 0; left -= 500) {
            lifts.run(Math.min(left, 500));
        }
        return lifts;
    }

    /** The output in a text. */
    static String output(BusLifts lifts) {
        StringBuilder text = new StringBuilder();
        for (int index = 0; lifts.outputByte(index) >= 0; index++) {
            text.append((char) lifts.outputByte(index));
        }
        return text.toString();
    }

    /** All that the questions tell about the lifts, in one text. */
    static String all(BusLifts lifts) {
        StringBuilder text = new StringBuilder();
        for (int what = 0; what <= 12; what++) {
            text.append(lifts.count(what)).append(' ');
        }
        for (int kind = 0; kind <= 3; kind++) {
            text.append(lifts.messages(kind, false)).append('/').append(lifts.messages(kind, true)).append(' ');
        }
        for (int cause = 1; cause <= 4; cause++) {
            text.append(lifts.nobody(cause)).append(' ');
        }
        for (int call = 0; call < lifts.count(2); call++) {
            text.append("\ncall ").append(call).append(':');
            for (int what = 0; what <= 10; what++) {
                text.append(' ').append(lifts.call(call, what));
            }
            text.append(" left ").append(lifts.claimLeft(call));
        }
        for (int car = 0; car < lifts.count(1); car++) {
            text.append("\ncar ").append(car).append(':');
            for (int what = 0; what <= 9; what++) {
                text.append(' ').append(lifts.car(car, what));
            }
            text.append(" goal ").append(lifts.goal(car)).append(" riders ").append(lifts.riders(car));
            for (int call = 0; call < lifts.count(2); call++) {
                text.append("; ").append(lifts.holds(car, call) ? "holds " : "");
                text.append(lifts.ownCost(car, call)).append(' ').append(lifts.decides(car, call));
                for (int other = 0; other < lifts.count(1); other++) {
                    text.append(' ').append(lifts.noted(car, call, other));
                }
                for (int kind = 0; kind <= 3; kind++) {
                    text.append(lifts.hasLost(car, call, kind) ? " lost" : " -");
                }
            }
        }
        return text.toString();
    }
}
