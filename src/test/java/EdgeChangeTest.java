/** The boundary cases that the changes, undo, saving and restoring name (promises 21 to 26 and 55 to 57). */
public final class EdgeChangeTest {
    private static final Due due = new Due();
    private static final Class<?> INDEX = IndexOutOfBoundsException.class;
    private static final Class<?> ARGUMENT = IllegalArgumentException.class;
    private static final Class<?> STATE = IllegalStateException.class;
    private static final int LEAST = Integer.MIN_VALUE;
    private static final int MOST = Integer.MAX_VALUE;

    private static final String TWO = "floors 10;car 0 2;car 9 2;call 0 3 6;call 0 7 1;";
    private static final String BUSY = "floors 10;car 0 2;car 8 2;car 4 1;noise 45;seed 379;patience 4;"
        + "call 0 4 8;call 0 4 0;call 1 9 0;call 2 1 8;";
    // Call 23 is the last of 24; the others are coming till 900.
    private static final String LAST = "floors 10;car 0 1;car 9 1;" + "call 900 0 1;".repeat(23) + "call 0 4 8;";

    public static void main(String[] arguments) {
        badFloors();
        fullOfCalls();
        madeAnew();
        stopping();
        jamming();
        settings();
        forgetting();
        changesThatThrow();
        noChanges();
        latestTen();
        notUndone();
        whatIsUndone();
        savedStates();
        nothingSaved();
        due.end();
    }

    private static void badFloors() {
        due.promise(21, "if there is no such floor, or both are the same");
        BusLifts lifts = Due.loaded(TWO);
        for (int bad : new int[] {LEAST, -1, 10, 11, 30, MOST}) {
            due.isThrown("from " + bad, ARGUMENT, () -> lifts.makeCall(bad, 0));
            due.isThrown("to " + bad, ARGUMENT, () -> lifts.makeCall(0, bad));
            due.isThrown("both " + bad, ARGUMENT, () -> lifts.makeCall(bad, bad));
        }
        for (int floor = 0; floor < 10; floor++) {
            int same = floor;
            due.isThrown("the same " + floor, ARGUMENT, () -> lifts.makeCall(same, same));
        }
        due.is("no call is made", lifts.count(2), 2);
        due.is("no change", lifts.count(13), 0);
        due.is("the lowest and the highest", lifts.makeCall(0, 9), 2);
        due.is("the highest and the lowest", lifts.makeCall(9, 0), 3);
    }

    private static void fullOfCalls() {
        due.promise(21, "if there are 24 calls");
        BusLifts lifts = Due.loaded("floors 9;car 0 1;" + "call 9 0 1;".repeat(23));
        due.is("the 24th", lifts.makeCall(8, 0), 23);
        due.isThrown("the 25th", STATE, () -> lifts.makeCall(8, 0));
        due.promise(21, "the exception that is listed first");
        due.isThrown("the 25th from 9", ARGUMENT, () -> lifts.makeCall(9, 0));
        due.isThrown("the 25th to -1", ARGUMENT, () -> lifts.makeCall(0, -1));
        due.isThrown("the 25th to the same", ARGUMENT, () -> lifts.makeCall(4, 4));
        due.is("changes", lifts.count(13), 1);
        due.is("calls", lifts.count(2), 24);
        lifts.run(500);
        due.isThrown("also when they are done", STATE, () -> lifts.makeCall(8, 0));
        lifts.undo();
        lifts.undo();
        due.is("room again", lifts.makeCall(0, 5), 23);
        due.is("the new one", lifts.call(23, 1), 5);
        BusLifts told = Due.loaded("floors 9;car 0 1;" + "call 9 0 1;".repeat(24));
        due.isThrown("24 of the text", STATE, () -> told.makeCall(8, 0));
    }

    private static void madeAnew() {
        due.promise(21, "a call in place of an undone one");
        for (int ticks = 1; ticks <= 25; ticks++) {
            BusLifts lifts = Due.behind(2, BUSY);
            lifts.makeCall(5, 9);
            lifts.run(ticks);
            lifts.undo();
            lifts.undo();
            lifts.makeCall(7, 2);
            BusLifts fresh = Due.behind(2, BUSY);
            fresh.makeCall(7, 2);
            due.isText("just made, undone at " + ticks, Due.all(lifts), Due.all(fresh));
            lifts.run(ticks);
            fresh.run(ticks);
            due.isText("later, undone at " + ticks, Due.all(lifts), Due.all(fresh));
        }
    }

    private static void stopping() {
        due.promise(23, "if there is no such car");
        BusLifts lifts = Due.behind(3, LAST);
        for (int bad : new int[] {LEAST, -1, 2, 4, MOST}) {
            due.isThrown("car " + bad, INDEX, () -> lifts.setStopped(bad, true));
            due.isThrown("car " + bad + ", off", INDEX, () -> lifts.setStopped(bad, false));
        }
        due.promise(23, "it will not decide any more about any call");
        due.is("the last call", lifts.decides(0, 23), 3);
        lifts.setStopped(0, false);
        due.is("when it is let go on, it still will", lifts.decides(0, 23), 3);
        lifts.setStopped(0, true);
        due.is("when it is stopped, it will not", lifts.decides(0, 23), -1);
        due.is("the other car still will", lifts.decides(1, 23), 3);
        due.is("the bids stay noted", lifts.noted(0, 23, 1), 5);
        due.promise(23, "whether it was before");
        boolean[] values = {true, false, false, true, true, false};
        boolean before = true;
        for (boolean value : values) {
            due.is("before", lifts.setStopped(0, value), before);
            due.is("now", lifts.car(0, 5), value ? 1 : 0);
            before = value;
        }
    }

    private static void jamming() {
        due.promise(24, "if there is no such car");
        BusLifts lifts = Due.behind(3, TWO);
        for (int bad : new int[] {LEAST, -1, 2, 4, MOST}) {
            due.isThrown("car " + bad, INDEX, () -> lifts.setJammed(bad, true));
            due.isThrown("car " + bad + ", off", INDEX, () -> lifts.setJammed(bad, false));
        }
        due.promise(24, "whether it was before");
        boolean[] values = {true, true, false, false, true, false};
        boolean before = false;
        for (boolean value : values) {
            due.is("before", lifts.setJammed(1, value), before);
            due.is("now", lifts.car(1, 6), value ? 1 : 0);
            due.is("the other car", lifts.car(0, 6), 0);
            before = value;
        }
        due.is("it still decides", lifts.decides(1, 1), 3);
    }

    private static void settings() {
        due.promise(25, "if which or value is out of range");
        int[] least = {0, 3, 0, 0, 1};
        int[] most = {90, 50, 20, 5, 999};
        for (int which = 0; which < 5; which++) {
            int setting = which;
            BusLifts lifts = new BusLifts();
            for (int bad : new int[] {LEAST, -1, least[which] - 1, most[which] + 1, 1000, MOST}) {
                due.isThrown(bad + " for " + which, ARGUMENT, () -> lifts.set(setting, bad));
            }
            due.is("no change", lifts.count(13), 0);
            int before = lifts.count(4 + which);
            for (int value = least[which]; value <= most[which] && value < least[which] + 400; value++) {
                due.is(value + " for " + which, lifts.set(which, value), before);
                before = value;
            }
            due.is("the most for " + which, lifts.set(which, most[which]), before);
            due.is("is set", lifts.count(4 + which), most[which]);
        }
        BusLifts lifts = new BusLifts();
        for (int bad : new int[] {LEAST, -1, 5, 6, MOST}) {
            due.isThrown("which " + bad, ARGUMENT, () -> lifts.set(bad, 3));
            due.isThrown("which " + bad + " and a bad value", ARGUMENT, () -> lifts.set(bad, -1));
        }
        due.is("the seed is no setting", lifts.count(9), 1);
    }

    private static void forgetting() {
        due.promise(26, "if there is no such car or call");
        BusLifts lifts = Due.behind(4, TWO);
        for (int bad : new int[] {LEAST, -1, 2, 4, 24, MOST}) {
            due.isThrown("car " + bad, INDEX, () -> lifts.forget(bad, 0));
            due.isThrown("call " + bad, INDEX, () -> lifts.forget(0, bad));
            due.isThrown("both " + bad, INDEX, () -> lifts.forget(bad, bad));
        }
        due.promise(26, "if it does not hold it");
        due.isThrown("the other car holds it", STATE, () -> lifts.forget(1, 0));
        due.is("no change", lifts.count(13), 1);
        due.is("the last that it holds", lifts.forget(0, 0), 0);
        due.isThrown("forgotten already", STATE, () -> lifts.forget(0, 0));
        BusLifts deciding = Due.behind(3, TWO);
        due.isThrown("it will decide", STATE, () -> deciding.forget(0, 0));
        due.is("it still will", deciding.decides(0, 0), 3);
        BusLifts aboard = Due.behind(7, TWO);
        due.isThrown("aboard", STATE, () -> aboard.forget(0, 0));
        BusLifts coming = Due.loaded("floors 2;car 0 1;call 9 0 1;");
        due.isThrown("coming", STATE, () -> coming.forget(0, 0));
        due.promise(26, "the number of calls that it still holds");
        BusLifts all = Due.behind(4, "floors 30;car 0 1;" + "call 0 29 0;".repeat(24));
        for (int call = 23; call >= 0; call--) {
            due.is("without call " + call, all.forget(0, call), call);
        }
        due.promise(26, "as if it had heard a report");
        BusLifts report = Due.behind(4, TWO);
        report.forget(0, 0);
        due.is("no cost", report.ownCost(0, 0), -1);
        due.is("no decision", report.decides(0, 0), -1);
        due.is("the bid of the other stays", report.noted(0, 0, 1), 6);
        due.is("nothing is sent", report.messages(3, false), 0);
    }

    private static BusLifts busy() {
        BusLifts lifts = Due.behind(9, BUSY);
        lifts.setStopped(2, true);
        return lifts;
    }

    private static void refuses(String what, Class<?> exception, java.util.function.Consumer<BusLifts> call) {
        BusLifts lifts = busy();
        due.isThrown(what, exception, () -> call.accept(lifts));
        due.isText("all behind " + what, Due.all(lifts), Due.all(busy()));
        due.is("changes behind " + what, lifts.count(13), 2);
        lifts.undo();
        lifts.undo();
        due.isText("all undone behind " + what, Due.all(lifts), Due.all(Due.loaded(BUSY)));
    }

    private static void changesThatThrow() {
        due.promise(55, "a method that throws changes nothing");
        refuses("makeCall(3, 3)", ARGUMENT, lifts -> lifts.makeCall(3, 3));
        refuses("makeCall(3, 10)", ARGUMENT, lifts -> lifts.makeCall(3, 10));
        refuses("run(0)", ARGUMENT, lifts -> lifts.run(0));
        refuses("run(501)", ARGUMENT, lifts -> lifts.run(501));
        refuses("setStopped(3)", INDEX, lifts -> lifts.setStopped(3, false));
        refuses("setJammed(-1)", INDEX, lifts -> lifts.setJammed(-1, true));
        refuses("set(0, 91)", ARGUMENT, lifts -> lifts.set(0, 91));
        refuses("set(1, 2)", ARGUMENT, lifts -> lifts.set(1, 2));
        refuses("set(5, 1)", ARGUMENT, lifts -> lifts.set(5, 1));
        refuses("forget(3, 0)", INDEX, lifts -> lifts.forget(3, 0));
        refuses("forget(0, 4)", INDEX, lifts -> lifts.forget(0, 4));
        refuses("forget(2, 2)", STATE, lifts -> lifts.forget(2, 2));
        refuses("restoreState()", STATE, lifts -> lifts.restoreState());
    }

    private static void noChanges() {
        due.promise(55, "only the methods whose description says so are changes");
        BusLifts lifts = busy();
        lifts.saveState();
        lifts.printCar(0);
        lifts.appendInput(0x3b3b3b3b, 0, 0, 0, 0);
        lifts.truncateInput(4);
        lifts.loadLifts();
        lifts.lateIn(9);
        lifts.bestNoise(9);
        lifts.bestPatience(9);
        lifts.wouldWait(1, 2);
        lifts.goal(0);
        due.is("no change of these", lifts.count(13), 2);
        due.promise(55, "changes, also if nothing is different then");
        lifts.setStopped(2, true);
        lifts.setJammed(0, false);
        lifts.set(0, 45);
        due.is("three more", lifts.count(13), 5);
        for (int left = 4; left >= 2; left--) {
            due.is("undone", lifts.undo(), left);
            due.isText("all as before", Due.all(lifts), Due.all(busy()));
        }
        due.is("and the stop", lifts.undo(), 1);
        due.isText("undone", Due.all(lifts), Due.all(Due.behind(9, BUSY)));
    }

    private static void latestTen() {
        due.promise(55, "the latest 10 changes can be undone; -1 if there was none");
        for (int changes = 0; changes <= 35; changes++) {
            BusLifts lifts = new BusLifts();
            for (int change = 1; change <= changes; change++) {
                lifts.set(4, change);
            }
            int left = Math.min(changes, 10);
            for (int back = 1; back <= Math.min(changes, 10); back++) {
                left--;
                due.is("undo " + back + " of " + changes, lifts.undo(), left);
                due.is("the bound", lifts.count(8), changes - back == 0 ? 30 : changes - back);
                due.is("changes left", lifts.count(13), left);
            }
            due.is("none is left of " + changes, lifts.undo(), -1);
            due.is("none again", lifts.undo(), -1);
            due.is("the bound stays", lifts.count(8), changes > 10 ? changes - 10 : 30);
        }
    }

    private static void notUndone() {
        due.promise(55, "the latest change that was not undone");
        BusLifts lifts = new BusLifts();
        lifts.set(4, 1);
        lifts.set(4, 2);
        lifts.set(4, 3);
        due.is("3 is undone", lifts.undo(), 2);
        due.is("2 is undone", lifts.undo(), 1);
        lifts.set(4, 4);
        due.is("4 is undone", lifts.undo(), 1);
        due.is("1 is there again", lifts.count(8), 1);
        due.is("1 is undone", lifts.undo(), 0);
        due.is("nothing is left", lifts.undo(), -1);
        due.is("as it was", lifts.count(8), 30);
        for (int round = 0; round < 25; round++) {
            lifts.set(4, 7);
            due.is("a change is undone, often", lifts.undo(), 0);
        }
        due.is("as it was again", lifts.count(8), 30);
    }

    private static void whatIsUndone() {
        due.promise(55, "the seed, and what is on its way");
        for (int ticks = 0; ticks <= 30; ticks++) {
            BusLifts lifts = ticks == 0 ? Due.loaded(BUSY) : Due.behind(ticks, BUSY);
            int seed = lifts.count(9);
            int onTheWay = lifts.count(12);
            lifts.run(3);
            lifts.undo();
            due.is("the seed at " + ticks, lifts.count(9), seed);
            due.is("on their way at " + ticks, lifts.count(12), onTheWay);
            lifts.run(9);
            due.isText("all later at " + ticks, Due.all(lifts), Due.all(Due.behind(ticks + 9, BUSY)));
        }
        due.promise(55, "when a call was claimed");
        // Announced again at 3, the holder claims at 4 once more, which the station hears at 5.
        BusLifts claimed = Due.behind(5, "floors 30;car 0 1;patience 3;call 0 29 0;");
        due.is("claimed at 4", claimed.claimLeft(0), 4 + 30 - 5);
        claimed.saveState();
        claimed.run(1);
        due.is("claimed at 5", claimed.claimLeft(0), 5 + 30 - 6);
        claimed.undo();
        due.is("undone: claimed at 4", claimed.claimLeft(0), 4 + 30 - 5);
        claimed.run(2);
        claimed.restoreState();
        due.is("restored: claimed at 4", claimed.claimLeft(0), 4 + 30 - 5);
        due.promise(55, "the costs of calls that are held");
        BusLifts held = Due.behind(4, "floors 20;car 0 2;patience 3;call 0 9 16;");
        held.setJammed(0, true);
        held.run(1);
        held.setJammed(0, false);
        held.forget(0, 0);
        held.run(3);
        due.is("a new cost from floor 2", held.ownCost(0, 0), 7);
        for (int left = 5; left >= 1; left--) {
            due.is("undone", held.undo(), left);
        }
        due.is("the cost with which it held it", held.ownCost(0, 0), 9);
        due.promise(55, "stops for nobody of the last cause");
        // Stopped at 7 from 5 to 50, car 1 comes too late to the call that it holds; nothing is lost.
        BusLifts late = Due.behind(5, "floors 10;patience 4;car 0 2;car 9 2;call 0 5 9;");
        late.setStopped(1, true);
        late.run(45);
        late.setStopped(1, false);
        late.saveState();
        due.is("forecast", late.nobodyIn(3), 1);
        due.is("forecast again", late.nobodyIn(3), 1);
        late.run(3);
        due.is("one", late.nobody(4), 1);
        late.undo();
        due.is("undone", late.nobody(4), 0);
        late.run(3);
        late.restoreState();
        due.is("restored", late.nobody(4), 0);
        due.promise(55, "bids for the last call");
        BusLifts last = Due.behind(2, LAST);
        last.run(1);
        due.is("noted", last.noted(0, 23, 1), 5);
        last.undo();
        due.is("undone", last.noted(0, 23, 1), -1);
        last.run(1);
        last.saveState();
        last.run(1);
        last.run(1);
        last.undo();
        due.is("noted still", last.noted(1, 23, 0), 4);
        last.restoreState();
        due.is("restored", last.noted(1, 23, 0), 4);
    }

    private static void savedStates() {
        due.promise(56, "everything but the input buffer, the error, the output and the changes");
        for (int ticks = 1; ticks <= 30; ticks++) {
            BusLifts lifts = Due.behind(ticks, BUSY);
            due.is("the time", lifts.saveState(), ticks);
            due.is("no change", lifts.count(13), 1);
            Due.feed(lifts, "floors 7;");
            lifts.loadLifts();
            lifts.printCar(2);
            int output = lifts.outputByte(4);
            Due.feed(lifts, "floors 7;car 0 1;");
            lifts.setJammed(0, true);
            lifts.set(4, 1);
            lifts.run(ticks);
            due.promise(57, "the time; nothing can be undone then");
            due.is("the time", lifts.restoreState(), ticks);
            due.is("changes", lifts.count(13), 0);
            due.is("undo", lifts.undo(), -1);
            due.isText("all", Due.all(lifts), Due.all(Due.behind(ticks, BUSY)));
            due.is("the error stays", lifts.errorCode(), BusLifts.NO_CAR);
            due.is("its offset stays", lifts.errorOffset(), 9);
            due.is("the output stays", lifts.outputByte(4), output);
            lifts.run(7);
            due.isText("all later", Due.all(lifts), Due.all(Due.behind(ticks + 7, BUSY)));
            due.promise(57, "it stays saved");
            due.is("the time again", lifts.restoreState(), ticks);
            due.isText("all again", Due.all(lifts), Due.all(Due.behind(ticks, BUSY)));
            due.is("the buffer stays", lifts.loadLifts(), 1);
        }
        due.promise(56, "in place of an earlier saved state");
        BusLifts twice = Due.loaded(BUSY);
        due.is("the time 0", twice.saveState(), 0);
        twice.run(3);
        due.is("the time 3", twice.saveState(), 3);
        twice.undo();
        due.is("undone", twice.count(3), 0);
        due.is("the later one, also if its change is undone", twice.restoreState(), 3);
        due.isText("all", Due.all(twice), Due.all(Due.behind(3, BUSY)));
        twice.makeCall(0, 1);
        due.is("with a call more", twice.count(2), 5);
        twice.restoreState();
        due.is("without it", twice.count(2), 4);
        due.isThrown("there is no such call", INDEX, () -> twice.call(4, 0));
    }

    private static void nothingSaved() {
        due.promise(57, "if no state is saved");
        BusLifts lifts = new BusLifts();
        due.isThrown("a new object", STATE, () -> lifts.restoreState());
        lifts.set(4, 3);
        due.isThrown("behind a change", STATE, () -> lifts.restoreState());
        due.is("the change stays", lifts.count(13) * 10 + lifts.count(8), 13);
        due.is("saved", lifts.saveState(), 0);
        due.is("restored", lifts.restoreState(), 0);
        due.is("a failed load", Due.load(lifts, "floors 2;"), -1);
        due.is("leaves it saved", lifts.restoreState(), 0);
        due.is("a load", Due.load(lifts, "floors 3;car 0 1;"), 1);
        due.isThrown("no state is saved then", STATE, () -> lifts.restoreState());
        due.is("no undo of a load", lifts.undo(), -1);
        due.is("the loaded lifts", lifts.count(0), 3);
    }
}
