import java.util.NoSuchElementException;

/**
 * The boundary cases that the questions about the lifts now name (promises 7 to 20, 27 to 41 and 43 to 46), in the
 * document's order. Times are worked out by hand.
 */
public final class EdgeAnswerTest {
    private static final Due due = new Due();
    private static final Class<?> INDEX = IndexOutOfBoundsException.class;
    private static final Class<?> ARGUMENT = IllegalArgumentException.class;
    private static final Class<?> NO_ELEMENT = NoSuchElementException.class;
    private static final int LEAST = Integer.MIN_VALUE;
    private static final int MOST = Integer.MAX_VALUE;

    // Boards at 6, off at 11.
    private static final String ONE = "floors 10;car 0 2;call 0 3 6;";
    // Car 0 takes call 0 (boards at 6, off at 11), car 1 call 1 (boards at 5, off at 13).
    private static final String TWO = "floors 10;car 0 2;car 9 2;call 0 3 6;call 0 7 1;";
    // One place: call 0 boards at 3, off at 10; call 1 boards at 17, off at 26.
    private static final String FULL = "floors 10;car 0 1;bound 10;call 0 0 5;call 0 0 7;";
    // Call 23 is the last of 24; the others are coming till 900. Car 0 comes to 4 at 6 and boards at 7.
    private static final String LAST = "floors 10;car 0 1;car 9 1;" + "call 900 0 1;".repeat(23) + "call 0 4 8;";

    public static void main(String[] arguments) {
        noSuchCarOrCall();
        counts();
        properties();
        waits();
        knowledge();
        held();
        goals();
        messages();
        ofCallsMade();
        ofCallsAboardOrDone();
        masks();
        floors();
        busiest();
        knownBest();
        cheapest();
        rounds();
        claimLeft();
        crowds();
        meanCosts();
        waitsWithin();
        due.end();
    }

    private static void noSuchCarOrCall() {
        due.promise(8, "and on, if there is no such car or call");
        BusLifts lifts = Due.behind(4, TWO);
        for (int bad : new int[] {LEAST, -1, 2, 3, 4, 23, 24, MOST}) {
            due.isThrown("car " + bad, INDEX, () -> lifts.car(bad, 0));
            due.isThrown("call " + bad, INDEX, () -> lifts.call(bad, 0));
            due.isThrown("waitOf " + bad, INDEX, () -> lifts.waitOf(bad));
            due.isThrown("held " + bad, INDEX, () -> lifts.held(bad, 0));
            due.isThrown("goal " + bad, INDEX, () -> lifts.goal(bad));
            due.isThrown("ride " + bad, INDEX, () -> lifts.ride(bad));
            due.isThrown("riders " + bad, INDEX, () -> lifts.riders(bad));
            due.isThrown("served " + bad, INDEX, () -> lifts.served(bad));
            due.isThrown("claimLeft " + bad, INDEX, () -> lifts.claimLeft(bad));
            due.isThrown("meanCost " + bad, INDEX, () -> lifts.meanCost(bad));
            pair(lifts, bad, 1);
            pair(lifts, 1, bad);
            due.isThrown("noted by " + bad, INDEX, () -> lifts.noted(bad, 0, 1));
            due.isThrown("noted of " + bad, INDEX, () -> lifts.noted(0, 0, bad));
        }
        due.promise(9, "no call at all");
        BusLifts none = new BusLifts();
        due.isThrown("call 0", INDEX, () -> none.call(0, 0));
        due.isThrown("waitOf 0", INDEX, () -> none.waitOf(0));
        due.isThrown("claimLeft 0", INDEX, () -> none.claimLeft(0));
        pair(none, 0, 0);
        due.promise(8, "the exception that is listed first");
        due.isThrown("car", INDEX, () -> lifts.car(2, 10));
        due.isThrown("call", INDEX, () -> lifts.call(2, 11));
        due.isThrown("held", INDEX, () -> lifts.held(2, -1));
        due.isThrown("hasLost, the car", INDEX, () -> lifts.hasLost(2, 0, 4));
        due.isThrown("hasLost, the call", INDEX, () -> lifts.hasLost(0, 2, -1));
    }

    private static void pair(BusLifts lifts, int car, int call) {
        String what = " " + car + " " + call;
        due.isThrown("holds" + what, INDEX, () -> lifts.holds(car, call));
        due.isThrown("ownCost" + what, INDEX, () -> lifts.ownCost(car, call));
        due.isThrown("decides" + what, INDEX, () -> lifts.decides(car, call));
        due.isThrown("noted" + what, INDEX, () -> lifts.noted(car, call, 0));
        due.isThrown("costNow" + what, INDEX, () -> lifts.costNow(car, call));
        due.isThrown("hasLost" + what, INDEX, () -> lifts.hasLost(car, call, 0));
        due.isThrown("knownBest" + what, INDEX, () -> lifts.knownBest(car, call));
    }

    private static void counts() {
        due.promise(7, "if what is out of range");
        BusLifts lifts = Due.loaded(TWO);
        for (int bad : new int[] {LEAST, -2, -1, 14, 15, MOST}) {
            due.isThrown("count " + bad, ARGUMENT, () -> lifts.count(bad));
        }
        due.promise(7, "12 the messages that are not delivered yet");
        due.is("none sent", lifts.count(12), 0);
        lifts.run(1);
        due.is("announcements", lifts.count(12), 2);
        lifts.run(1);
        due.is("bids", lifts.count(12), 4);
        lifts.run(1);
        due.is("none in this tick", lifts.count(12), 0);
        due.promise(7, "13 the changes that can be undone");
        for (int changes = 4; changes <= 25; changes++) {
            lifts.setJammed(0, false);
            due.is("changes", lifts.count(13), Math.min(changes, 10));
        }
        due.promise(7, "9 the seed now");
        due.is("the least", Due.loaded("floors 2;car 0 1;seed 0;").count(9), 0);
        due.is("the greatest of a text", Due.loaded("floors 2;car 0 1;seed 9999;").count(9), 9999);
        due.is("below 0", Due.behind(5, "floors 2;car 0 1;patience 3;call 0 0 1;noise 39;").count(9), -1770082073);
        due.promise(7, "10 the calls that wait, 11 those that are done");
        int[] waiting = {0, 2, 2, 2, 1, 1, 1, 1, 1, 1, 1, 1, 1, 1, 1, 1, 1, 1, 0};
        BusLifts full = Due.loaded(FULL);
        for (int time = 0; time < waiting.length; time++) {
            due.is("waiting at " + time, full.count(10), waiting[time]);
            due.is("done at " + time, full.count(11), time > 10 ? 1 : 0);
            full.run(1);
        }
        full.run(8);
        due.is("all are done", full.count(11), 2);
    }

    private static void properties() {
        due.promise(8, "if what is out of range");
        BusLifts lifts = Due.behind(4, TWO);
        for (int bad : new int[] {LEAST, -1, 10, 11, MOST}) {
            due.isThrown("car 0, " + bad, ARGUMENT, () -> lifts.car(0, bad));
        }
        due.promise(9, "if what is out of range");
        for (int bad : new int[] {LEAST, -1, 11, 12, MOST}) {
            due.isThrown("call 0, " + bad, ARGUMENT, () -> lifts.call(0, bad));
        }
        due.promise(9, "-1 without one, -1 before");
        int[] times = {0, 1, 6, 7, 11, 12};
        int[][] wanted = {{-1, -1, -1, 0, -1, 0, -1}, {-1, -1, -1, 1, -1, 0, 0}, {-1, -1, -1, 1, 0, 1, 0},
            {0, 6, -1, 1, 0, 0, 0}, {0, 6, -1, 1, 0, 0, 0}, {0, 6, 11, 1, 0, 0, 0}};
        BusLifts one = Due.loaded(ONE);
        for (int at = 0; at < times.length; at++) {
            if (times[at] > one.count(3)) {
                one.run(times[at] - one.count(3));
            }
            for (int what = 4; what <= 10; what++) {
                due.is("call 0, " + what + " at " + times[at], one.call(0, what), wanted[at][what - 4]);
            }
        }
        due.promise(9, "the last of 24 calls");
        BusLifts last = Due.behind(8, LAST);
        int[] all = {4, 8, 0, 2, 0, 7, -1, 1, 0, 0, 0};
        for (int what = 0; what <= 10; what++) {
            due.is("call 23, " + what, last.call(23, what), all[what]);
        }
        due.promise(9, "how many cars hold it");
        BusLifts four = Due.behind(2, "floors 9;car 0 1;car 8 1;car 0 1;car 8 1;call 0 4 5;");
        for (int car = 0; car < 4; car++) {
            four.setJammed(car, true);
        }
        four.run(2);
        due.is("all four", four.call(0, 9), 4);
        for (int car = 0; car < 4; car++) {
            four.forget(car, 0);
            due.is("left", four.call(0, 9), 3 - car);
        }
    }

    private static void waits() {
        due.promise(10, "-1 if it is coming");
        BusLifts lifts = Due.loaded("floors 10;car 3 2;call 5 3 6;");
        int[] waits = {-1, -1, -1, -1, -1, -1, 1, 2, 3, 3, 3};
        for (int time = 0; time < waits.length; time++) {
            due.is("at " + time, lifts.waitOf(0), waits[time]);
            lifts.run(1);
        }
        int made = lifts.makeCall(0, 1);
        due.is("made in the next tick", lifts.waitOf(made), -1);
    }

    private static void knowledge() {
        due.promise(12, "-1 if it neither holds it nor will decide about it");
        BusLifts lifts = Due.loaded("floors 9;car 4 1;car 0 1;call 0 4 5;call 900 0 1;");
        int[] own = {-1, -1, 0, 0, -1};
        int[] other = {-1, -1, 4, 4, -1};
        int[] noted = {-1, -1, -1, 0, 0};
        int[] deciding = {-1, -1, 3, 3, -1};
        for (int time = 0; time < own.length; time++) {
            due.promise(12, "a cost of 0, and -1 if it neither holds it nor will decide about it");
            due.is("own cost at " + time, lifts.ownCost(0, 0), own[time]);
            due.is("own cost of the other at " + time, lifts.ownCost(1, 0), other[time]);
            due.promise(14, "a bid of 0, and -1 if it has noted none");
            due.is("noted at " + time, lifts.noted(1, 0, 0), noted[time]);
            due.is("of itself", lifts.noted(0, 0, 0), -1);
            due.promise(13, "-1 if it will not");
            due.is("decides at " + time, lifts.decides(0, 0), deciding[time]);
            due.is("about a coming call", lifts.decides(0, 1), -1);
            lifts.run(1);
        }
        due.promise(11, "whether a car holds a call");
        BusLifts holding = Due.loaded(ONE);
        for (int time = 0; time < 9; time++) {
            due.is("at " + time, holding.holds(0, 0), time >= 4 && time <= 6);
            due.is("its cost at " + time, holding.ownCost(0, 0), time >= 2 && time <= 6 ? 3 : -1);
            holding.run(1);
        }
        due.promise(15, "the cost of a call now, also of one that is coming, aboard or done");
        due.is("coming", Due.loaded("floors 30;car 29 1;call 9 0 2;").costNow(0, 0), 29);
        due.is("no distance", Due.loaded("floors 30;car 29 1;call 9 29 2;").costNow(0, 0), 0);
        due.is("aboard", Due.behind(10, ONE).costNow(0, 0), 2 + 2);
        due.is("done", Due.behind(50, ONE).costNow(0, 0), 3);
        BusLifts stopped = Due.behind(4, ONE);
        stopped.setStopped(0, true);
        due.is("of a stopped car", stopped.costNow(0, 0), 2 + 2);
    }

    private static void held() {
        due.promise(16, "if there is no such index");
        BusLifts none = new BusLifts();
        due.isThrown("0 of none, without calls", NO_ELEMENT, () -> none.held(0, 0));
        BusLifts lifts = Due.behind(4, "floors 10;car 5 2;car 0 1;call 0 0 1;call 0 3 0;call 0 9 0;call 0 7 9;");
        for (int bad : new int[] {LEAST, -2, -1, 3, 4, 23, 24, MOST}) {
            due.isThrown(bad + " of three", NO_ELEMENT, () -> lifts.held(0, bad));
            due.isThrown(bad + " of none", NO_ELEMENT, () -> lifts.held(1, bad));
        }
        due.isThrown("0 of none", NO_ELEMENT, () -> lifts.held(1, 0));
        due.promise(16, "by their numbers, from 0");
        for (int index = 0; index < 3; index++) {
            due.is("index " + index, lifts.held(0, index), index + 1);
        }
        due.is("the last call", Due.behind(4, LAST).held(0, 0), 23);
        BusLifts all = Due.behind(4, "floors 30;car 0 1;" + "call 0 29 0;".repeat(24));
        for (int index = 0; index < 24; index++) {
            due.is("index " + index + " of 24", all.held(0, index), index);
        }
        due.isThrown("24 of 24", NO_ELEMENT, () -> all.held(0, 24));
    }

    private static void goals() {
        due.promise(17, "-1 without any");
        due.is("without calls", new BusLifts().goal(0), -1);
        due.is("before it holds one", Due.behind(3, ONE).goal(0), -1);
        due.is("behind all", Due.behind(12, ONE).goal(0), -1);
        due.promise(17, "of one that is stopped or whose door is above 0");
        BusLifts door = Due.behind(7, ONE);
        due.is("an open door", door.car(0, 2), 1);
        due.is("its goal", door.goal(0), 6);
        door.setStopped(0, true);
        due.is("and stopped", door.goal(0), 6);
        due.promise(17, "the floor 0, and its own floor");
        due.is("floor 0", Due.behind(4, "floors 10;car 5 1;call 0 0 1;").goal(0), 0);
        due.is("where someone wants to get off", Due.behind(11, ONE).goal(0), 6);
        due.is("where someone waits", Due.behind(6, ONE).goal(0), 3);
        due.is("where someone waits, but it is full", Due.behind(5, FULL).goal(0), 5);
    }

    private static void messages() {
        due.promise(18, "if kind is out of range");
        BusLifts lifts = Due.behind(2, "floors 10;car 0 2;car 9 2;call 0 4 8;");
        for (int bad : new int[] {LEAST, -2, 4, 5, MOST}) {
            due.isThrown("sent, " + bad, ARGUMENT, () -> lifts.messages(bad, false));
            due.isThrown("lost, " + bad, ARGUMENT, () -> lifts.messages(bad, true));
        }
        due.promise(19, "if kind is out of range");
        for (int bad : new int[] {LEAST, -1, 4, MOST}) {
            due.isThrown("hasLost, " + bad, ARGUMENT, () -> lifts.hasLost(0, 0, bad));
        }
        due.promise(20, "if cause is out of range");
        for (int bad : new int[] {LEAST, -1, 0, 5, 6, MOST}) {
            due.isThrown("nobody, " + bad, ARGUMENT, () -> lifts.nobody(bad));
        }
        due.promise(18, "-1 for all kinds, one for each receiver that lost it");
        lifts.setJammed(1, true);
        lifts.run(7);
        int[] sent = {1, 2, 2, 1};
        int[] lost = {0, 3, 3, 1};
        for (int kind = 0; kind < 4; kind++) {
            due.is("sent of kind " + kind, lifts.messages(kind, false), sent[kind]);
            due.is("lost of kind " + kind, lifts.messages(kind, true), lost[kind]);
        }
        due.is("all sent", lifts.messages(-1, false), 6);
        due.is("all lost", lifts.messages(-1, true), 7);
        due.is("none", new BusLifts().messages(-1, false) + new BusLifts().messages(-1, true), 0);
        due.promise(19, "a message of the last call");
        BusLifts last = Due.behind(2, LAST);
        last.setJammed(1, true);
        last.run(1);
        due.is("call 23", last.hasLost(1, 23, 1), true);
        due.is("the other car", last.hasLost(0, 23, 1), true);
        due.is("another call", last.hasLost(1, 22, 1), false);
        due.is("another kind", last.hasLost(1, 23, 2), false);
    }

    private static void ofCallsMade() {
        BusLifts none = new BusLifts();
        BusLifts coming = Due.behind(899, "floors 9;car 0 1;call 900 0 1;call 999 5 4;");
        for (BusLifts lifts : new BusLifts[] {none, coming}) {
            due.promise(27, "-1 if no call is made");
            due.is("longestWait", lifts.longestWait(), -1);
            due.promise(28, "0.0 without calls that came aboard");
            due.isReal("meanWait", lifts.meanWait(), 0.0);
            due.promise(29, "0 if no call is made");
            due.isReal("lateShare", lifts.lateShare(), 0.0);
            due.promise(34, "-1 if no call is made");
            due.is("fullestFloor", lifts.fullestFloor(), -1);
            due.promise(37, "0.0 without calls that are done");
            due.isReal("meanRide", lifts.meanRide(), 0.0);
            due.promise(40, "the sum of their rounds, 0 before they are made");
            due.is("allRounds", lifts.allRounds(), 0);
            due.promise(46, "-1 if no call is made");
            due.is("mostRounds", lifts.mostRounds(), -1);
        }
        coming.run(2);
        due.promise(27, "the calls that are made");
        due.is("made at 900", coming.longestWait(), 1);
        due.promise(34, "the floor 0, of one made call");
        due.is("fullestFloor", coming.fullestFloor(), 0);
        due.promise(40, "the rounds of a made call");
        due.is("allRounds", coming.allRounds(), 1);
        due.promise(46, "the only made call");
        due.is("mostRounds", coming.mostRounds(), 0);
        due.promise(29, "the share of the calls that are made, coming ones left aside");
        BusLifts share = Due.behind(11, FULL + "call 900 1 0;call 901 1 0;");
        due.isReal("one of two", share.lateShare(), 0.5);
        due.isReal("two thirds, as a float", Due.behind(20, "floors 9;car 8 1;bound 9;call 0 0 1;call 0 0 1;call 19 5 4;call 99 0 1;")
            .lateShare(), (float) 2 / (float) 3);
    }

    private static void ofCallsAboardOrDone() {
        due.promise(28, "the calls that came aboard, waiting ones left aside");
        BusLifts lifts = Due.loaded(FULL);
        due.isReal("both waiting", Due.behind(3, FULL).meanWait(), 0.0);
        due.isReal("one aboard", Due.behind(4, FULL).meanWait(), 3.0);
        due.isReal("one done", Due.behind(17, FULL).meanWait(), 3.0);
        due.isReal("both", Due.behind(18, FULL).meanWait(), (3.0 + 17.0) / 2.0);
        due.promise(37, "the calls that are done, those aboard left aside");
        due.isReal("one aboard", Due.behind(10, FULL).meanRide(), 0.0);
        due.isReal("one done", Due.behind(11, FULL).meanRide(), 7.0);
        due.isReal("one aboard, one done", Due.behind(26, FULL).meanRide(), 7.0);
        due.isReal("both", Due.behind(27, FULL).meanRide(), (7.0 + 9.0) / 2.0);
        due.promise(36, "calls that a car took aboard, done ones too");
        due.is("none", lifts.served(0), 0);
        due.is("waiting", Due.behind(3, FULL).served(0), 0);
        due.is("aboard", Due.behind(4, FULL).served(0), 1);
        due.is("done and waiting", Due.behind(11, FULL).served(0), 1);
        due.is("both done", Due.behind(27, FULL).served(0), 2);
        due.is("the last call", Due.behind(8, LAST).served(0), 1);
        due.is("not by the other car", Due.behind(8, LAST).served(1), 0);
        due.promise(35, "the people aboard");
        due.is("none", Due.behind(3, FULL).riders(0), 0);
        due.is("call 0", Due.behind(10, FULL).riders(0), 1);
        due.is("none, behind the first", Due.behind(11, FULL).riders(0), 0);
        due.is("the last call", Due.behind(8, LAST).riders(0), 1 << 23);
        due.is("not in the other car", Due.behind(8, LAST).riders(1), 0);
    }

    private static void masks() {
        due.promise(30, "the calls that more than one car holds");
        BusLifts lifts = Due.behind(2, LAST);
        due.is("none", lifts.doubles(), 0);
        lifts.setJammed(1, true);
        lifts.run(2);
        due.is("the last call", lifts.doubles(), 1 << 23);
        due.promise(31, "the calls that wait and no car holds");
        due.is("held twice", lifts.orphans(), 0);
        lifts.forget(0, 23);
        due.is("held once", lifts.orphans(), 0);
        due.promise(30, "not those that one car holds");
        due.is("held once", lifts.doubles(), 0);
        lifts.forget(1, 23);
        due.promise(31, "the last call");
        due.is("held by none", lifts.orphans(), 1 << 23);
        due.is("coming", Due.loaded(LAST).orphans(), 0);
        due.is("all of 24", Due.behind(3, "floors 30;car 0 1;" + "call 0 29 0;".repeat(24)).orphans(), (1 << 24) - 1);
        due.is("aboard", Due.behind(8, ONE).orphans(), 0);
        due.is("done", Due.behind(12, ONE).orphans(), 0);
        due.promise(30, "also one that does not wait any more");
        BusLifts gone = Due.behind(2, "floors 10;car 0 2;car 9 2;car 9 2;call 0 4 8;");
        gone.setJammed(1, true);
        gone.setJammed(2, true);
        gone.run(5);
        due.is("held by three", gone.doubles(), 1);
        gone.run(1);
        due.is("aboard the first", gone.call(0, 4), 0);
        due.is("held by the others", gone.doubles(), 1);
        gone.run(1);
        due.is("held by none", gone.doubles(), 0);
    }

    private static void floors() {
        due.promise(32, "the distance of its two floors");
        BusLifts lifts = Due.loaded("floors 30;car 0 1;call 0 0 1;call 0 1 0;call 0 0 29;call 0 29 0;");
        int[] rides = {1, 1, 29, 29};
        for (int call = 0; call < 4; call++) {
            due.is("call " + call, lifts.ride(call), rides[call]);
        }
        due.promise(34, "the lowest one on a tie");
        due.is("0 and 29", Due.behind(1, "floors 30;car 9 1;call 0 29 0;call 0 0 29;").fullestFloor(), 0);
        due.is("28 and 29", Due.behind(1, "floors 30;car 9 1;call 0 29 0;call 0 28 0;").fullestFloor(), 28);
        due.is("two at 29", Due.behind(1, "floors 30;car 9 1;call 0 0 1;call 0 29 0;call 0 29 0;").fullestFloor(), 29);
        due.promise(34, "went or wait, coming ones left aside");
        due.is("one at 5", Due.behind(1, "floors 30;car 9 1;call 0 5 0;call 9 2 0;call 9 2 0;").fullestFloor(), 5);
        due.is("done ones, too", Due.behind(60, "floors 9;car 0 2;call 0 3 0;call 0 3 1;call 59 1 0;").fullestFloor(), 3);
    }

    private static void busiest() {
        due.promise(33, "the smallest one on a tie");
        due.is("none went", Due.loaded("floors 9;car 0 1;car 8 1;car 3 1;car 4 1;").busiest(), 0);
        due.is("one car", new BusLifts().busiest(), 0);
        due.is("two went one floor each", Due.behind(4, TWO).busiest(), 0);
        due.is("the last of four", Due.behind(9, "floors 30;car 0 1;car 0 1;car 0 1;car 29 1;call 0 20 0;").busiest(), 3);
        due.is("cars 1 and 2 alike", Due.behind(4, "floors 30;car 0 1;car 9 1;car 29 1;call 0 11 0;call 0 27 0;").busiest(), 1);
    }

    private static void knownBest() {
        due.promise(38, "-1 if it knows of none");
        due.is("a coming call", Due.loaded("floors 9;car 0 1;call 9 0 1;").knownBest(0, 0), -1);
        due.is("an announcement not heard yet", Due.behind(1, ONE).knownBest(0, 0), -1);
        due.is("aboard, without bids of others", Due.behind(8, ONE).knownBest(0, 0), -1);
        due.promise(38, "a cost of 0");
        BusLifts zero = Due.behind(3, "floors 9;car 0 1;car 4 1;call 0 4 5;");
        due.is("its own", zero.knownBest(1, 0), 1);
        due.is("of a bid", zero.knownBest(0, 0), 1);
        due.is("its own alone", Due.behind(2, "floors 9;car 4 1;call 0 4 5;").knownBest(0, 0), 0);
        due.promise(38, "on a tie the number of the car");
        BusLifts four = Due.behind(3, "floors 9;car 8 1;car 2 1;car 6 1;car 2 1;call 0 4 5;");
        for (int car = 0; car < 4; car++) {
            due.is("2 of the cars 1, 2 and 3, by car " + car, four.knownBest(car, 0), 1);
        }
        due.promise(38, "of its own cost, if it holds the call or will decide about it");
        BusLifts lifts = Due.behind(3, TWO);
        due.is("it will decide", lifts.knownBest(0, 0), 0);
        lifts.run(1);
        due.is("it holds it", lifts.knownBest(0, 0), 0);
        lifts.forget(0, 0);
        due.is("neither", lifts.knownBest(0, 0), 1);
    }

    private static void cheapest() {
        due.promise(39, "if there is no such floor");
        BusLifts lifts = Due.loaded("floors 9;car 2 1;car 6 1;car 6 1;");
        for (int bad : new int[] {LEAST, -1, 9, 10, 30, MOST}) {
            due.isThrown("floor " + bad, ARGUMENT, () -> lifts.cheapest(bad));
        }
        due.is("the lowest floor", lifts.cheapest(0), 0);
        due.is("the highest floor", lifts.cheapest(8), 1);
        due.promise(39, "the smallest one on a tie");
        due.is("all three", lifts.cheapest(4), 0);
        due.is("two", lifts.cheapest(6), 1);
        due.promise(39, "stopped cars left aside; -1 if all are stopped");
        int[] wanted = {1, 2, -1};
        for (int car = 0; car < 3; car++) {
            lifts.setStopped(car, true);
            due.is("stopped: " + (car + 1), lifts.cheapest(4), wanted[car]);
        }
        lifts.setStopped(1, false);
        due.is("one goes again", lifts.cheapest(4), 1);
        lifts.setJammed(1, true);
        due.is("a jammed one is not left aside", lifts.cheapest(4), 1);
        due.promise(39, "a cost of 0");
        due.is("0 of car 1", Due.loaded("floors 9;car 2 1;car 6 1;").cheapest(6), 1);
        due.is("0 of both", Due.loaded("floors 9;car 6 1;car 6 1;").cheapest(6), 0);
    }

    private static void rounds() {
        due.promise(46, "the smallest one on a tie");
        BusLifts lifts = Due.loaded("floors 9;car 0 1;patience 4;call 900 7 8;call 2 1 2;call 0 3 4;call 2 1 2;");
        lifts.setStopped(0, true);
        lifts.run(1);
        due.is("the only one", lifts.mostRounds(), 2);
        lifts.run(3);
        due.is("three with one round", lifts.mostRounds(), 1);
        lifts.run(1);
        due.is("two rounds of the later number", lifts.mostRounds(), 2);
        due.promise(40, "the rounds of all calls together");
        due.is("1 + 2 + 1", lifts.allRounds(), 4);
        lifts.run(2);
        due.is("2 + 2 + 2", lifts.allRounds(), 6);
        due.promise(46, "the smallest one on a tie of two rounds");
        due.is("again", lifts.mostRounds(), 1);
        due.is("the last call", Due.behind(1, LAST).mostRounds(), 23);
    }

    private static void claimLeft() {
        due.promise(41, "-1 if it does not wait or is not claimed");
        due.is("coming", Due.loaded(ONE).claimLeft(0), -1);
        due.is("not claimed", Due.behind(4, ONE).claimLeft(0), -1);
        due.is("claimed at 4", Due.behind(5, ONE).claimLeft(0), 4 + 60 - 5);
        due.is("aboard", Due.behind(7, ONE).claimLeft(0), -1);
        due.is("done", Due.behind(12, ONE).claimLeft(0), -1);
        due.promise(41, "at least 0");
        BusLifts lifts = Due.behind(5, "floors 30;car 0 1;patience 4;call 0 29 0;");
        lifts.set(1, 5);
        lifts.setStopped(0, true);
        due.is("claimed at 4", lifts.claimLeft(0), 4 + 50 - 5);
        lifts.run(48);
        due.is("1 left", lifts.claimLeft(0), 1);
        lifts.run(1);
        due.is("0 left", lifts.claimLeft(0), 0);
        lifts.set(1, 4);
        due.is("10 too late", lifts.claimLeft(0), 0);
        lifts.set(1, 50);
        due.is("with the most patience", lifts.claimLeft(0), 4 + 500 - 54);
    }

    private static void crowds() {
        due.promise(43, "if there is no such floor");
        BusLifts lifts = Due.behind(1, "floors 9;car 5 1;call 0 0 8;call 0 0 1;call 0 8 0;call 0 8 7;call 0 4 5;call 0 4 3;call 9 4 5;");
        for (int bad : new int[] {LEAST, -1, 9, 30, MOST}) {
            due.isThrown("up from " + bad, ARGUMENT, () -> lifts.crowd(bad, true));
            due.isThrown("down from " + bad, ARGUMENT, () -> lifts.crowd(bad, false));
        }
        due.promise(43, "those that wait, up or down");
        int[][] wanted = {{0, 2, 0}, {4, 1, 1}, {8, 0, 2}, {5, 0, 0}, {1, 0, 0}};
        for (int[] floor : wanted) {
            due.is("up from " + floor[0], lifts.crowd(floor[0], true), floor[1]);
            due.is("down from " + floor[0], lifts.crowd(floor[0], false), floor[2]);
        }
        due.is("without calls", new BusLifts().crowd(0, true), 0);
        due.is("the last call", Due.behind(1, LAST).crowd(4, true), 1);
        due.is("coming", Due.behind(1, LAST).crowd(0, true), 0);
    }

    private static void meanCosts() {
        due.promise(44, "the mean for all cars, stopped ones, too");
        due.isReal("one car, no distance", Due.loaded("floors 9;car 4 1;call 0 4 5;").meanCost(0), 0.0);
        BusLifts lifts = Due.loaded("floors 9;car 4 1;car 5 1;car 5 1;call 0 4 5;");
        due.isReal("0, 1 and 1", lifts.meanCost(0), 2.0 / 3.0);
        for (int car = 0; car < 3; car++) {
            lifts.setStopped(car, true);
            due.isReal("stopped", lifts.meanCost(0), 2.0 / 3.0);
        }
        due.isReal("1, 2 and 1, held by one", Due.behind(4, "floors 9;car 0 1;car 8 1;call 0 3 5;").meanCost(0), (2 + 2 + 5) / 2.0);
        due.isReal("the last call", Due.behind(1, LAST).meanCost(23), (4 + 5) / 2.0);
    }

    private static void waitsWithin() {
        due.promise(45, "0 if low is greater than high");
        // Waits of 3 and 17, and a coming call.
        BusLifts lifts = Due.behind(30, FULL + "call 900 0 1;");
        int[][] wanted = {{4, 3, 0}, {17, 3, 0}, {MOST, LEAST, 0}, {MOST, MOST - 1, 0}, {LEAST + 1, LEAST, 0},
            {3, 3, 1}, {17, 17, 1}, {3, 17, 2}, {4, 16, 0}, {3, 16, 1}, {4, 17, 1}, {2, 2, 0}, {18, 18, 0},
            {LEAST, MOST, 2}, {LEAST, LEAST, 0}, {MOST, MOST, 0}, {LEAST, 2, 0}, {LEAST, 3, 1}, {17, MOST, 1}, {18, MOST, 0}};
        for (int[] row : wanted) {
            due.is(row[0] + " to " + row[1], lifts.waitsWithin(row[0], row[1]), row[2]);
        }
        due.promise(45, "the calls that are made");
        due.is("-1 of a coming one", lifts.waitsWithin(-1, -1), 0);
        due.is("without calls", new BusLifts().waitsWithin(LEAST, MOST), 0);
        due.is("waiting ones", Due.behind(2, FULL).waitsWithin(2, 2), 2);
    }
}
