/** Promises 21 to 26 and 55 to 57: the changes, undo, saving and restoring. */
public final class ChangeTest {
    private static final Due due = new Due();
    private static final Class<?> INDEX = IndexOutOfBoundsException.class;
    private static final Class<?> ARGUMENT = IllegalArgumentException.class;
    private static final Class<?> STATE = IllegalStateException.class;
    private static final String TWO = "floors 10;car 0 2;car 9 2;call 0 3 6;call 0 7 1;";

    public static void main(String[] arguments) {
        makingCalls();
        stopping();
        jamming();
        settings();
        forgetting();
        undoing();
        saving();
        throwing();
        due.end();
    }

    private static void makingCalls() {
        due.promise(21, "makeCall");
        BusLifts lifts = Due.behind(4, TWO);
        due.is("its number", lifts.makeCall(9, 0), 2);
        int[] wanted = {9, 0, 4, 0, -1, -1, -1, 0, -1, 0, -1};
        for (int what = 0; what <= 10; what++) {
            due.is("call 2, " + what, lifts.call(2, what), wanted[what]);
        }
        due.is("calls", lifts.count(2), 3);
        due.is("knows nobody", lifts.noted(0, 2, 1) + lifts.ownCost(1, 2), -2);
        lifts.run(1);
        due.is("waits", lifts.call(2, 3), 1);
        due.is("announced at 4", lifts.call(2, 10), 4);
        due.is("wait", lifts.waitOf(2), 1);
        BusLifts full = new BusLifts();
        for (int call = 0; call < 24; call++) {
            due.is("call", full.makeCall(call % 2, 1 - call % 2), call);
        }
        due.isThrown("a 25th call", STATE, () -> full.makeCall(0, 1));
        due.isThrown("a bad 25th call", ARGUMENT, () -> full.makeCall(0, 0));
        due.is("calls", full.count(2), 24);
        due.isThrown("the same", ARGUMENT, () -> lifts.makeCall(4, 4));
        due.isThrown("from -1", ARGUMENT, () -> lifts.makeCall(-1, 4));
        due.isThrown("from 10", ARGUMENT, () -> lifts.makeCall(10, 4));
        due.isThrown("to -1", ARGUMENT, () -> lifts.makeCall(4, -1));
        due.isThrown("to 10", ARGUMENT, () -> lifts.makeCall(4, 10));
    }

    private static void stopping() {
        due.promise(23, "setStopped");
        BusLifts lifts = Due.behind(2, TWO);
        due.is("before", lifts.setStopped(0, true), false);
        due.is("again", lifts.setStopped(0, true), true);
        due.is("no decision about call 0", lifts.decides(0, 0), -1);
        due.is("no decision about call 1", lifts.decides(0, 1), -1);
        due.is("no own cost", lifts.ownCost(0, 0), -1);
        due.is("the other decides", lifts.decides(1, 0), 3);
        due.is("off", lifts.setStopped(0, false), true);
        due.is("off again", lifts.setStopped(0, false), false);
        due.is("still no decision", lifts.decides(0, 0), -1);
        due.is("each is a change", lifts.count(13), 5);
        BusLifts going = Due.behind(4, TWO);
        going.setStopped(0, true);
        due.is("it holds on", going.holds(0, 0), true);
        going.run(5);
        due.is("and stands still", going.car(0, 0), 1);
        BusLifts decided = Due.behind(2, TWO);
        decided.setStopped(1, false);
        due.is("letting go on drops nothing", decided.decides(1, 0), 3);
        due.isThrown("car 2", INDEX, () -> going.setStopped(2, true));
        due.isThrown("car -1", INDEX, () -> going.setStopped(-1, false));
    }

    private static void jamming() {
        due.promise(24, "setJammed");
        BusLifts lifts = Due.behind(1, TWO);
        due.is("before", lifts.setJammed(1, true), false);
        due.is("again", lifts.setJammed(1, true), true);
        lifts.run(1);
        due.is("it hears nothing", lifts.decides(1, 0), -1);
        due.is("the other does", lifts.decides(0, 0), 3);
        due.is("free", lifts.setJammed(1, false), true);
        due.is("free again", lifts.setJammed(1, false), false);
        lifts.run(1);
        due.is("it hears bids", lifts.noted(1, 0, 0), 3);
        due.is("each is a change", lifts.count(13), 7);
        due.isThrown("car 2", INDEX, () -> lifts.setJammed(2, true));
        due.isThrown("car -1", INDEX, () -> lifts.setJammed(-1, false));
    }

    private static void settings() {
        due.promise(25, "set");
        int[] least = {0, 3, 0, 0, 1};
        int[] most = {90, 50, 20, 5, 999};
        int[] first = {0, 6, 2, 1, 30};
        BusLifts lifts = new BusLifts();
        for (int which = 0; which < 5; which++) {
            int setting = which;
            due.is("least of " + which, lifts.set(which, least[which]), first[which]);
            due.is("is set", lifts.count(4 + which), least[which]);
            due.is("most of " + which, lifts.set(which, most[which]), least[which]);
            due.is("is set", lifts.count(4 + which), most[which]);
            due.isThrown("too little for " + which, ARGUMENT, () -> lifts.set(setting, least[setting] - 1));
            due.isThrown("too much for " + which, ARGUMENT, () -> lifts.set(setting, most[setting] + 1));
            due.is("is kept", lifts.count(4 + which), most[which]);
        }
        due.is("changes", lifts.count(13), 10);
        due.isThrown("which -1", ARGUMENT, () -> lifts.set(-1, 5));
        due.isThrown("which 5", ARGUMENT, () -> lifts.set(5, 5));
        BusLifts same = new BusLifts();
        due.is("the same value", same.set(1, 6), 6);
        due.is("is a change", same.count(13), 1);
        BusLifts heavy = Due.behind(4, TWO);
        heavy.set(2, 20);
        due.is("the weight counts at once", heavy.costNow(0, 0), 22);
    }

    private static void forgetting() {
        due.promise(26, "forget");
        BusLifts lifts = Due.behind(4, "floors 10;car 5 2;car 0 1;call 0 3 0;call 0 9 0;call 0 7 9;");
        due.is("two are left", lifts.forget(0, 1), 2);
        due.is("forgotten", lifts.holds(0, 1), false);
        due.is("the others not", lifts.holds(0, 0) && lifts.holds(0, 2), true);
        due.is("no own cost", lifts.ownCost(0, 1), -1);
        due.isThrown("again", STATE, () -> lifts.forget(0, 1));
        due.is("one is left", lifts.forget(0, 0), 1);
        due.is("none is left", lifts.forget(0, 2), 0);
        due.isThrown("not held by car 1", STATE, () -> lifts.forget(1, 0));
        due.is("changes", lifts.count(13), 4);
        due.is("the bids stay noted", lifts.noted(0, 0, 1), 3);
    }

    private static void undoing() {
        due.promise(55, "undo");
        BusLifts lifts = Due.loaded(TWO);
        due.is("nothing", lifts.undo(), -1);
        String[] states = new String[14];
        for (int change = 0; change < 13; change++) {
            states[change] = Due.all(lifts);
            switch (change) {
                case 3:
                    lifts.setStopped(1, true);
                    break;
                case 5:
                    lifts.setJammed(0, true);
                    break;
                case 7:
                    lifts.makeCall(2, 3);
                    break;
                case 8:
                    lifts.set(0, 50);
                    break;
                case 9:
                    lifts.forget(0, 0);
                    break;
                default:
                    lifts.run(change == 12 ? 40 : 1);
                    break;
            }
        }
        due.is("changes", lifts.count(13), 10);
        for (int change = 12; change >= 3; change--) {
            due.is("undo " + change, lifts.undo(), change - 3);
            due.isText("all behind undo " + change, Due.all(lifts), states[change]);
        }
        due.is("no more", lifts.undo(), -1);
        due.isText("no change", Due.all(lifts), states[3]);
        lifts.run(5);
        due.is("a new change", lifts.undo(), 0);
        due.isText("undone", Due.all(lifts), states[3]);
        undoingRuns();
        BusLifts same = new BusLifts();
        same.setJammed(0, false);
        due.is("a change that changes nothing", same.count(13), 1);
        due.is("undone", same.undo(), 0);

        BusLifts other = Due.behind(3, TWO);
        Due.feed(other, "floors 2;");
        other.printCar(0);
        other.loadLifts();
        other.undo();
        due.is("the error is not undone", other.errorCode(), 4);
        due.is("the output is not undone", other.outputByte(0), 'O');
        other.appendInput(1, 2, 3, 4, 5);
        other.run(1);
        other.undo();
        due.is("the buffer is not undone", other.truncateInput(20), true);
    }

    /** Busy lifts with losses, claims that run out and stops for nobody, undone from every time to every time. */
    private static void undoingRuns() {
        String busy = "floors 10;car 0 2;car 8 2;car 4 1;noise 45;seed 379;patience 4;call 0 4 8;call 0 4 0;call 1 9 0;call 2 1 8;";
        for (int ticks = 1; ticks <= 80; ticks++) {
            BusLifts lifts = Due.behind(ticks, busy);
            String before = Due.all(lifts);
            lifts.run(ticks);
            lifts.undo();
            due.isText("undone to " + ticks, Due.all(lifts), before);
            lifts.run(20);
            due.isText("gone on from " + ticks, Due.all(lifts), Due.all(Due.behind(ticks + 20, busy)));
        }
        due.is("with stops for nobody", Due.behind(80, busy).nobody(1) == 2 && Due.behind(80, busy).nobody(3) == 1, true);
    }

    private static void saving() {
        due.promise(56, "saveState");
        BusLifts lifts = Due.behind(4, TWO);
        String before = Due.all(lifts);
        due.is("the time", lifts.saveState(), 4);
        due.isText("nothing changes", Due.all(lifts), before);
        due.is("no change", lifts.count(13), 1);
        lifts.setStopped(0, true);
        lifts.set(0, 70);
        lifts.run(7);
        Due.feed(lifts, "floors 2;");
        lifts.loadLifts();
        lifts.printCar(1);
        int output = lifts.outputByte(9);
        due.promise(57, "restoreState");
        due.is("the time", lifts.restoreState(), 4);
        due.isText("all", Due.all(lifts), before);
        due.is("nothing can be undone", lifts.undo(), -1);
        due.is("changes", lifts.count(13), 0);
        due.is("the error stays", lifts.errorCode(), 4);
        due.is("the output stays", lifts.outputByte(9), output);
        lifts.run(9);
        due.is("it stays saved", lifts.restoreState(), 4);
        due.isText("all again", Due.all(lifts), before);
        due.promise(56, "saveState");
        lifts.run(2);
        String later = Due.all(lifts);
        due.is("in place of the earlier one", lifts.saveState(), 6);
        lifts.undo();
        due.is("undo leaves it saved", lifts.restoreState(), 6);
        due.isText("the later one", Due.all(lifts), later);
        due.promise(57, "restoreState");
        due.isThrown("none is saved", STATE, () -> new BusLifts().restoreState());
        BusLifts none = Due.behind(3, TWO);
        due.isThrown("none is saved here", STATE, () -> none.restoreState());
        due.is("no change then", none.count(13), 1);
    }

    private static void throwing() {
        due.promise(55, "what throws is no change");
        BusLifts lifts = Due.behind(4, TWO);
        String before = Due.all(lifts);
        due.isThrown("makeCall", ARGUMENT, () -> lifts.makeCall(3, 3));
        due.isThrown("run", ARGUMENT, () -> lifts.run(0));
        due.isThrown("setStopped", INDEX, () -> lifts.setStopped(5, true));
        due.isThrown("setJammed", INDEX, () -> lifts.setJammed(5, true));
        due.isThrown("set", ARGUMENT, () -> lifts.set(0, 91));
        due.isThrown("forget", STATE, () -> lifts.forget(0, 1));
        due.isText("all", Due.all(lifts), before);
        due.is("changes", lifts.count(13), 1);
    }
}
