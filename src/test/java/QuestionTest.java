import java.util.NoSuchElementException;

/** Promises 7 to 20, 27 to 41 and 43 to 46: what is asked about the lifts now. Times are worked out by hand. */
public final class QuestionTest {
    private static final Due due = new Due();
    private static final Class<?> INDEX = IndexOutOfBoundsException.class;
    private static final Class<?> ARGUMENT = IllegalArgumentException.class;

    // The car takes the call at 3, comes to it at 5, boards at 6 and lets off at 11.
    private static final String ONE = "floors 10;car 0 2;call 0 3 6;";
    // Car 0 takes call 0 (boards at 6, off at 11), car 1 call 1 (boards at 5, off at 13).
    private static final String TWO = "floors 10;car 0 2;car 9 2;call 0 3 6;call 0 7 1;";
    // One place: call 0 boards at 3, off at 10; call 1 boards at 17, off at 26.
    private static final String FULL = "floors 10;car 0 1;bound 10;call 0 0 5;call 0 0 7;";

    public static void main(String[] arguments) {
        counts();
        carProperties();
        callProperties();
        knowledge();
        heldAndGoal();
        messageCounts();
        causes();
        waits();
        masks();
        floorsAndCars();
        knownAndCheapest();
        roundsAndClaims();
        crowdsAndCosts();
        due.end();
    }

    private static void counts() {
        due.promise(7, "count");
        BusLifts lifts = Due.loaded(ONE);
        int[] pending = {0, 1, 1, 0, 1, 0, 0, 1, 0};
        for (int tick = 0; tick < pending.length; tick++) {
            due.is("time", lifts.count(3), tick);
            due.is("messages not delivered at " + tick, lifts.count(12), pending[tick]);
            due.is("waiting at " + tick, lifts.count(10), tick >= 1 && tick <= 6 ? 1 : 0);
            due.is("changes", lifts.count(13), tick);
            lifts.run(1);
        }
        lifts.run(1);
        due.is("changes", lifts.count(13), 10);
        due.is("done at 10", lifts.count(11), 0);
        lifts.run(2);
        due.is("done at 12", lifts.count(11), 1);
        due.is("changes, at most 10", lifts.count(13), 10);
        due.is("seed behind 4 draws", lifts.count(9), drawn(1, 4));
        due.isThrown("count -1", ARGUMENT, () -> lifts.count(-1));
        due.isThrown("count 14", ARGUMENT, () -> lifts.count(14));
    }

    private static int drawn(int seed, int draws) {
        int now = seed;
        for (int draw = 0; draw < draws; draw++) {
            now = 1103515245 * now + 12345;
        }
        return now;
    }

    private static void carProperties() {
        due.promise(8, "car");
        BusLifts lifts = Due.behind(7, ONE);
        int[] wanted = {3, 2, 1, 0, 1, 0, 0, 3, 1, 0};
        for (int what = 0; what < wanted.length; what++) {
            due.is("car 0, " + what, lifts.car(0, what), wanted[what]);
        }
        due.is("held by car 1", Due.behind(4, TWO).car(1, 3), 1);
        due.is("calls held", Due.behind(4, FULL).car(0, 3), 1);
        lifts.setStopped(0, true);
        due.is("stopped", lifts.car(0, 5), 1);
        due.is("not jammed", lifts.car(0, 6), 0);
        lifts.setJammed(0, true);
        due.is("jammed", lifts.car(0, 6), 1);
        due.isThrown("car -1", INDEX, () -> lifts.car(-1, 0));
        due.isThrown("car 1", INDEX, () -> lifts.car(1, 0));
        due.isThrown("car 1, 10", INDEX, () -> lifts.car(1, 10));
        due.isThrown("car 0, -1", ARGUMENT, () -> lifts.car(0, -1));
        due.isThrown("car 0, 10", ARGUMENT, () -> lifts.car(0, 10));
    }

    private static void callProperties() {
        due.promise(9, "call");
        BusLifts lifts = Due.loaded("floors 10;car 0 2;call 2 3 6;");
        int[][] wanted = {
            {3, 6, 2, 0, -1, -1, -1, 0, -1, 0, -1},
            {3, 6, 2, 1, -1, -1, -1, 1, -1, 0, 2},
            {3, 6, 2, 1, -1, -1, -1, 1, -1, 1, 2},
            {3, 6, 2, 1, -1, -1, -1, 1, 0, 1, 2},
            {3, 6, 2, 2, 0, 8, -1, 1, 0, 0, 2},
            {3, 6, 2, 3, 0, 8, 13, 1, 0, 0, 2}};
        int[] times = {2, 3, 6, 7, 9, 14};
        for (int at = 0; at < times.length; at++) {
            lifts.run(times[at] - lifts.count(3));
            for (int what = 0; what <= 10; what++) {
                due.is("call 0, " + what + " at " + times[at], lifts.call(0, what), wanted[at][what]);
            }
        }
        due.isThrown("call -1", INDEX, () -> lifts.call(-1, 0));
        due.isThrown("call 1", INDEX, () -> lifts.call(1, 0));
        due.isThrown("call 1, 11", INDEX, () -> lifts.call(1, 11));
        due.isThrown("call 0, 11", ARGUMENT, () -> lifts.call(0, 11));
        due.isThrown("call 0, -1", ARGUMENT, () -> lifts.call(0, -1));

        due.promise(10, "waitOf");
        BusLifts waiting = Due.loaded("floors 10;car 0 2;call 2 3 6;");
        int[] waits = {-1, -1, -1, 1, 2, 3, 4, 5, 6, 6, 6, 6, 6, 6, 6};
        for (int time = 0; time < waits.length; time++) {
            due.is("wait at " + time, waiting.waitOf(0), waits[time]);
            waiting.run(1);
        }
        due.isThrown("waitOf -1", INDEX, () -> waiting.waitOf(-1));
        due.isThrown("waitOf 1", INDEX, () -> waiting.waitOf(1));
    }

    private static void knowledge() {
        due.promise(11, "holds");
        BusLifts lifts = Due.behind(3, TWO);
        due.is("not before the decision", lifts.holds(0, 0), false);
        due.promise(12, "ownCost");
        due.is("of car 0 for call 0", lifts.ownCost(0, 0), 3);
        due.is("of car 0 for call 1", lifts.ownCost(0, 1), 7);
        due.is("of car 1 for call 0", lifts.ownCost(1, 0), 6);
        due.promise(13, "decides");
        due.is("of car 0", lifts.decides(0, 0), 3);
        due.is("of car 1", lifts.decides(1, 0), 3);
        due.is("before the announcement is heard", Due.behind(1, TWO).decides(0, 0), -1);
        lifts.run(1);
        due.promise(11, "holds");
        due.is("the cheaper one", lifts.holds(0, 0), true);
        due.is("the dearer one", lifts.holds(1, 0), false);
        due.is("the cheaper one of call 1", lifts.holds(1, 1), true);
        due.promise(12, "ownCost");
        due.is("of the holder, who moved on", lifts.ownCost(0, 0), 3);
        due.is("of the loser", lifts.ownCost(1, 0), -1);
        due.promise(13, "decides");
        due.is("of the holder", lifts.decides(0, 0), -1);
        due.is("of the loser", lifts.decides(1, 0), -1);
        due.promise(14, "noted");
        due.is("by car 0 of car 1", lifts.noted(0, 0, 1), 6);
        due.is("by car 0 of itself", lifts.noted(0, 0, 0), -1);
        due.is("by car 1 of car 0", lifts.noted(1, 1, 0), 7);
        due.is("before bids are heard", Due.behind(2, TWO).noted(0, 0, 1), -1);
        due.promise(15, "costNow");
        due.is("of car 0 at 1, holding one", lifts.costNow(0, 0), 2 + 2);
        due.is("of car 1 at 8, holding one", lifts.costNow(1, 0), 5 + 2);
        due.is("of car 0 with one aboard", Due.behind(7, TWO).costNow(0, 1), 4 + 2);
        due.is("of a coming call", Due.loaded("floors 5;car 4 1;call 9 1 2;").costNow(0, 0), 3);
        badCarsAndCalls(lifts);
    }

    private static void badCarsAndCalls(BusLifts lifts) {
        due.promise(11, "to 15, no such car or call");
        int[][] pairs = {{-1, 0}, {2, 0}, {0, -1}, {0, 2}, {4, 0}, {0, 24}};
        for (int[] pair : pairs) {
            String what = " " + pair[0] + " " + pair[1];
            due.isThrown("holds" + what, INDEX, () -> lifts.holds(pair[0], pair[1]));
            due.isThrown("ownCost" + what, INDEX, () -> lifts.ownCost(pair[0], pair[1]));
            due.isThrown("decides" + what, INDEX, () -> lifts.decides(pair[0], pair[1]));
            due.isThrown("noted" + what, INDEX, () -> lifts.noted(pair[0], pair[1], 0));
            due.isThrown("costNow" + what, INDEX, () -> lifts.costNow(pair[0], pair[1]));
            due.isThrown("hasLost" + what, INDEX, () -> lifts.hasLost(pair[0], pair[1], 9));
            due.isThrown("knownBest" + what, INDEX, () -> lifts.knownBest(pair[0], pair[1]));
            due.isThrown("forget" + what, INDEX, () -> lifts.forget(pair[0], pair[1]));
        }
        due.isThrown("noted 0 0 2", INDEX, () -> lifts.noted(0, 0, 2));
        due.isThrown("noted 0 0 -1", INDEX, () -> lifts.noted(0, 0, -1));
    }

    private static void heldAndGoal() {
        due.promise(16, "held");
        BusLifts lifts = Due.behind(4, "floors 10;car 5 2;car 0 1;call 0 0 1;call 0 3 0;call 0 9 0;call 0 7 9;");
        due.is("the first", lifts.held(0, 0), 1);
        due.is("the second", lifts.held(0, 1), 2);
        due.is("the third", lifts.held(0, 2), 3);
        due.is("call 0, the first of two", Due.behind(4, "floors 10;car 0 2;call 0 3 6;call 0 8 9;").held(0, 0), 0);
        due.isThrown("the fourth", NoSuchElementException.class, () -> lifts.held(0, 3));
        due.isThrown("index -1", NoSuchElementException.class, () -> lifts.held(0, -1));
        due.isThrown("of car 2", INDEX, () -> lifts.held(2, 0));
        due.isThrown("of car -1", INDEX, () -> lifts.held(-1, -1));

        due.promise(17, "goal");
        due.is("the lower one on a tie: it went there", lifts.car(0, 0), 4);
        due.is("then it is nearer", lifts.goal(0), 3);
        due.is("without any", Due.loaded("floors 9;car 0 2;").goal(0), -1);
        BusLifts full = Due.behind(4, FULL);
        due.is("of a full car with an open door", full.goal(0), 5);
        full.setStopped(0, true);
        due.is("of a stopped one", full.goal(0), 5);
        due.is("of a full car at the floor of a call that it holds", full.car(0, 0), 0);
        due.is("of a car at its goal", Due.behind(6, ONE).goal(0), 3);
        BusLifts tie = Due.behind(4, "floors 10;car 5 2;call 0 3 0;call 0 7 9;");
        tie.run(1);
        due.is("going on", tie.car(0, 0), 3);
        due.isThrown("of car 1", INDEX, () -> tie.goal(1));
        due.isThrown("of car -1", INDEX, () -> tie.goal(-1));
    }

    private static void messageCounts() {
        due.promise(18, "messages");
        BusLifts lifts = Due.behind(20, TWO);
        int[] sent = {2, 4, 2, 2};
        for (int kind = 0; kind < 4; kind++) {
            due.is("sent of kind " + kind, lifts.messages(kind, false), sent[kind]);
            due.is("lost of kind " + kind, lifts.messages(kind, true), 0);
        }
        due.is("all sent", lifts.messages(-1, false), 10);
        due.isThrown("kind -2", ARGUMENT, () -> lifts.messages(-2, false));
        due.isThrown("kind 4", ARGUMENT, () -> lifts.messages(4, true));

        // Car 1 is jammed from the bids on: both cars go for the call.
        BusLifts jammed = Due.behind(2, "floors 10;car 0 2;car 9 2;call 0 4 8;");
        jammed.setJammed(1, true);
        jammed.run(10);
        int[] lost = {0, 3, 3, 1};
        for (int kind = 0; kind < 4; kind++) {
            due.is("lost of kind " + kind, jammed.messages(kind, true), lost[kind]);
        }
        due.is("all lost", jammed.messages(-1, true), 7);

        due.promise(19, "hasLost");
        boolean[][] lostFor = {{false, true, true, false}, {false, true, true, true}};
        for (int car = 0; car < 2; car++) {
            for (int kind = 0; kind < 4; kind++) {
                due.is("car " + car + " kind " + kind, jammed.hasLost(car, 0, kind), lostFor[car][kind]);
            }
        }
        due.isThrown("kind -1", ARGUMENT, () -> jammed.hasLost(0, 0, -1));
        due.isThrown("kind 4", ARGUMENT, () -> jammed.hasLost(0, 0, 4));
        due.isThrown("car 2, kind 4", INDEX, () -> jammed.hasLost(2, 0, 4));
        BusLifts announced = Due.behind(1, ONE);
        announced.setJammed(0, true);
        due.is("before", announced.hasLost(0, 0, 0), false);
        announced.run(1);
        due.is("an announcement", announced.hasLost(0, 0, 0), true);
    }

    private static void cause(String what, BusLifts lifts, int car, int cause) {
        for (int other = 1; other <= 4; other++) {
            due.is(what + ", cause " + other, lifts.nobody(other), other == cause ? 1 : 0);
        }
        due.is(what + ", of the car", lifts.car(car, 9), 1);
        due.is(what + ", of the other car", lifts.car(1 - car, 9), 0);
    }

    private static void causes() {
        due.promise(20, "nobody");
        BusLifts report = Due.behind(2, "floors 10;car 0 2;car 9 2;call 0 4 8;");
        report.setJammed(1, true);
        report.run(6);
        due.is("not yet at 8", report.nobody(1), 0);
        report.run(1);
        cause("a report is lost", report, 1, 1);

        // Both come to the floor at once, the lower number first.
        BusLifts claim = Due.behind(2, "floors 10;car 0 2;car 8 2;call 0 4 8;");
        claim.setJammed(1, true);
        claim.run(6);
        cause("a claim is lost", claim, 1, 2);

        // Car 1 stands still with the better claim until the station's claim runs out.
        BusLifts bid = Due.behind(2, "floors 10;patience 4;car 0 2;car 8 2;call 0 5 9;");
        bid.setJammed(0, true);
        bid.run(1);
        bid.setJammed(0, false);
        bid.run(2);
        due.is("car 1 stands at 6", bid.car(1, 0), 6);
        bid.setStopped(1, true);
        bid.run(45);
        due.is("both hold it", bid.doubles(), 1);
        bid.setStopped(1, false);
        bid.run(2);
        cause("a bid is lost", bid, 1, 3);

        BusLifts none = Due.behind(5, "floors 10;patience 4;car 0 2;car 9 2;call 0 5 9;");
        due.is("car 1 stands at 7", none.car(1, 0), 7);
        none.setStopped(1, true);
        none.run(45);
        due.is("car 0 comes to 3", none.car(0, 0), 3);
        none.setStopped(1, false);
        none.run(3);
        cause("nothing is lost", none, 1, 4);
        due.is("car 0 took it", none.call(0, 4), 0);
        due.is("nothing was lost", none.messages(-1, true), 0);
        due.isThrown("cause 0", ARGUMENT, () -> none.nobody(0));
        BusLifts anew = Due.behind(5, "floors 10;patience 4;car 0 2;car 9 2;call 0 5 9;");
        anew.setStopped(1, true);
        anew.run(45);
        anew.setStopped(1, false);
        anew.lateIn(3);
        Due.load(anew, "floors 10;car 0 2;");
        due.is("nothing is counted behind a load", anew.nobody(4), 0);
        due.isThrown("cause 5", ARGUMENT, () -> none.nobody(5));

        BusLifts two = Due.behind(2, "floors 10;car 0 2;car 8 2;call 0 4 8;call 0 4 0;");
        two.setJammed(1, true);
        two.run(6);
        due.is("each call counts", two.nobody(2), 2);
        due.is("for the car, too", two.car(1, 9), 2);
        due.is("in one stop", two.car(1, 8), 1);
    }

    private static void waits() {
        BusLifts lifts = Due.behind(4, FULL);
        due.promise(27, "longestWait");
        due.is("of a waiting one", lifts.longestWait(), 4);
        due.is("without calls", new BusLifts().longestWait(), -1);
        due.is("of a coming one", Due.loaded(ONE).longestWait(), -1);
        due.is("made just now", Due.behind(1, ONE).longestWait(), 1);
        due.promise(28, "meanWait");
        due.isReal("of one aboard", lifts.meanWait(), 3.0);
        due.isReal("without any", Due.behind(3, FULL).meanWait(), 0.0);
        due.promise(29, "lateShare");
        due.isReal("none late", lifts.lateShare(), 0.0);
        due.isReal("without calls", new BusLifts().lateShare(), 0.0);
        due.promise(37, "meanRide");
        due.isReal("none done", lifts.meanRide(), 0.0);
        lifts.run(6);
        due.promise(29, "lateShare");
        due.isReal("a wait of the bound", lifts.lateShare(), 0.0);
        lifts.run(1);
        due.isReal("a wait above the bound", lifts.lateShare(), 0.5);
        due.promise(37, "meanRide");
        due.isReal("of one", lifts.meanRide(), 7.0);
        lifts.run(15);
        due.isReal("of one, the other aboard", lifts.meanRide(), 7.0);
        due.promise(28, "meanWait");
        due.isReal("of both", lifts.meanWait(), 10.0);
        due.promise(27, "longestWait");
        due.is("of both", lifts.longestWait(), 17);
        due.promise(29, "lateShare");
        due.isReal("of both", lifts.lateShare(), 0.5);
        due.isReal("a third, as a float", Due.behind(20, "floors 10;car 0 1;bound 10;call 0 0 5;call 0 0 7;call 19 1 0;")
            .lateShare(), 1f / 3f);
        lifts.run(7);
        due.promise(37, "meanRide");
        due.isReal("of both", lifts.meanRide(), 8.0);
        due.promise(45, "waitsWithin");
        due.is("3 to 17", lifts.waitsWithin(3, 17), 2);
        due.is("4 to 17", lifts.waitsWithin(4, 17), 1);
        due.is("3 to 16", lifts.waitsWithin(3, 16), 1);
        due.is("17 to 3", lifts.waitsWithin(17, 3), 0);
        due.is("any", lifts.waitsWithin(Integer.MIN_VALUE, Integer.MAX_VALUE), 2);
        due.is("none made", Due.loaded(FULL).waitsWithin(-5, 5), 0);
        due.is("waiting ones", Due.behind(2, FULL).waitsWithin(2, 2), 2);
    }

    private static void masks() {
        due.promise(30, "doubles");
        String text = "floors 10;car 0 2;car 8 2;call 50 1 2;call 0 4 8;";
        BusLifts lifts = Due.behind(2, text);
        lifts.setJammed(1, true);
        due.is("none", lifts.doubles(), 0);
        due.promise(31, "orphans");
        due.is("without the coming call", lifts.orphans(), 2);
        lifts.run(2);
        due.is("held by both", lifts.orphans(), 0);
        due.promise(30, "doubles");
        due.is("call 1", lifts.doubles(), 2);
        lifts.forget(0, 1);
        due.is("held by one", lifts.doubles(), 0);
        lifts.forget(1, 1);
        due.promise(31, "orphans");
        due.is("held by none", lifts.orphans(), 2);
        due.is("aboard", Due.behind(8, text).orphans(), 0);

        due.promise(35, "riders");
        BusLifts full = Due.behind(4, FULL);
        due.is("call 0", full.riders(0), 1);
        full.run(14);
        due.is("call 1", full.riders(0), 2);
        full.run(9);
        due.is("nobody", full.riders(0), 0);
        due.is("two aboard", Due.behind(4, "floors 9;car 4 3;call 9 1 2;call 0 4 5;call 0 4 0;").riders(0), 6);
        due.isThrown("car 1", INDEX, () -> full.riders(1));
        due.isThrown("car -1", INDEX, () -> full.riders(-1));

        due.promise(36, "served");
        due.is("both", full.served(0), 2);
        due.is("one, still aboard", Due.behind(4, FULL).served(0), 1);
        due.is("none", Due.behind(3, FULL).served(0), 0);
        due.is("by car 1", Due.behind(20, TWO).served(1), 1);
        due.isThrown("car 1", INDEX, () -> full.served(1));
        due.isThrown("car -1", INDEX, () -> full.served(-1));
    }

    private static void floorsAndCars() {
        due.promise(32, "ride");
        BusLifts lifts = Due.loaded(TWO);
        due.is("up", lifts.ride(0), 3);
        due.is("down", lifts.ride(1), 6);
        due.isThrown("call 2", INDEX, () -> lifts.ride(2));
        due.isThrown("call -1", INDEX, () -> lifts.ride(-1));

        due.promise(33, "busiest");
        due.is("on a tie", lifts.busiest(), 0);
        lifts.run(4);
        due.is("on a tie of those that went", lifts.busiest(), 0);
        due.is("car 0 waits for its door, car 1 goes", Due.behind(8, TWO).busiest(), 0);
        lifts.run(10);
        due.is("car 1 went 8 floors, car 0 6", lifts.busiest(), 1);

        due.promise(34, "fullestFloor");
        due.is("none made", Due.loaded(TWO).fullestFloor(), -1);
        due.is("without calls", new BusLifts().fullestFloor(), -1);
        due.is("the lowest on a tie", lifts.fullestFloor(), 3);
        due.is("the most", Due.behind(30, "floors 8;car 0 1;call 0 1 2;call 0 7 2;call 1 7 3;call 99 1 0;call 99 1 0;")
            .fullestFloor(), 7);
        due.is("the top floor waiting", Due.behind(1, "floors 2;car 0 1;call 0 1 0;").fullestFloor(), 1);
    }

    private static void knownAndCheapest() {
        due.promise(38, "knownBest");
        BusLifts lifts = Due.behind(2, TWO);
        due.is("its own alone", lifts.knownBest(1, 0), 1);
        lifts.run(1);
        due.is("the other's", lifts.knownBest(1, 0), 0);
        due.is("its own", lifts.knownBest(0, 0), 0);
        due.is("nothing heard", Due.behind(1, TWO).knownBest(0, 0), -1);
        lifts.setStopped(0, true);
        due.is("of a car that does not decide", lifts.knownBest(0, 0), 1);
        BusLifts tie = Due.behind(3, "floors 9;car 0 1;car 8 1;call 0 4 5;");
        due.is("on a tie", tie.knownBest(0, 0), 0);
        due.is("on a tie, for the other", tie.knownBest(1, 0), 0);
        due.is("of the holder", Due.behind(4, TWO).knownBest(1, 1), 1);
        due.is("of the loser, who noted it", Due.behind(4, TWO).knownBest(1, 0), 0);

        due.promise(39, "cheapest");
        BusLifts cars = Due.loaded("floors 9;car 0 1;car 8 1;car 7 1;");
        due.is("on a tie", cars.cheapest(4), 2);
        due.is("at 0", cars.cheapest(0), 0);
        due.is("at 8", cars.cheapest(8), 1);
        cars.setStopped(1, true);
        due.is("a stopped one left aside", cars.cheapest(8), 2);
        cars.setStopped(2, true);
        due.is("two left aside", cars.cheapest(8), 0);
        cars.setStopped(0, true);
        due.is("all stopped", cars.cheapest(8), -1);
        due.isThrown("floor 9", ARGUMENT, () -> cars.cheapest(9));
        due.isThrown("floor -1", ARGUMENT, () -> cars.cheapest(-1));
        due.is("smallest on a tie", Due.loaded("floors 9;car 0 1;car 8 1;").cheapest(4), 0);
        due.is("with the load", Due.behind(4, TWO).cheapest(5), 1);
        due.is("with people", Due.behind(7, "floors 10;car 3 2;car 6 2;call 0 3 6;").cheapest(4), 1);
    }

    private static void roundsAndClaims() {
        BusLifts lifts = Due.loaded("floors 9;car 0 1;patience 4;call 0 1 2;call 2 3 4;call 900 1 0;");
        due.promise(46, "mostRounds");
        due.is("none made", lifts.mostRounds(), -1);
        due.is("without calls", new BusLifts().mostRounds(), -1);
        due.promise(40, "allRounds");
        due.is("none made", lifts.allRounds(), 0);
        lifts.setStopped(0, true);
        lifts.run(4);
        due.is("one each", lifts.allRounds(), 2);
        due.promise(46, "mostRounds");
        due.is("on a tie", lifts.mostRounds(), 0);
        lifts.run(1);
        due.is("announced again at 4", lifts.call(0, 7), 2);
        due.is("announced last", lifts.call(0, 10), 4);
        due.is("call 0", lifts.mostRounds(), 0);
        lifts.run(2);
        due.promise(40, "allRounds");
        due.is("two each", lifts.allRounds(), 4);
        due.is("rounds of the later one", Due.behind(100, "floors 9;car 0 1;call 0 1 2;call 90 3 4;").allRounds(), 2);
        due.promise(46, "mostRounds");
        BusLifts later = Due.behind(1, "floors 9;car 0 1;patience 4;call 0 0 2;call 0 3 4;");
        later.run(3);
        later.setJammed(0, true);
        later.run(3);
        due.is("the waiting one", later.mostRounds(), 1);

        due.promise(41, "claimLeft");
        BusLifts claimed = Due.behind(4, "floors 9;car 0 1;patience 4;call 0 5 2;call 90 1 2;");
        due.is("not claimed yet", claimed.claimLeft(0), -1);
        due.is("coming", claimed.claimLeft(1), -1);
        claimed.setStopped(0, true);
        claimed.run(1);
        due.is("claimed at 4", claimed.claimLeft(0), 39);
        claimed.run(39);
        due.is("at 44", claimed.claimLeft(0), 0);
        due.is("still claimed", claimed.call(0, 8), 0);
        due.is("rounds", claimed.call(0, 7), 1);
        claimed.run(1);
        due.is("behind it", claimed.claimLeft(0), -1);
        due.is("claimed no more", claimed.call(0, 8), -1);
        due.is("announced again in the same tick", claimed.call(0, 7), 2);
        BusLifts shorter = Due.behind(20, "floors 30;car 0 1;call 0 29 0;");
        due.is("with patience 6", shorter.claimLeft(0), 44);
        shorter.set(1, 10);
        due.is("with patience 10", shorter.claimLeft(0), 84);
        BusLifts past = Due.behind(45, "floors 30;car 0 1;door 5;patience 4;call 0 29 0;");
        due.is("aboard", past.claimLeft(0), -1);
        BusLifts least = Due.behind(4, "floors 30;car 0 1;call 0 29 0;");
        least.setStopped(0, true);
        least.run(40);
        least.set(1, 3);
        due.is("at least 0", least.claimLeft(0), 0);
        due.isThrown("call 1", INDEX, () -> least.claimLeft(1));
        due.isThrown("call -1", INDEX, () -> least.claimLeft(-1));
    }

    private static void crowdsAndCosts() {
        due.promise(43, "crowd");
        BusLifts lifts = Due.behind(1, "floors 9;car 0 1;car 8 2;call 0 4 8;call 0 4 0;call 0 4 5;call 9 4 6;call 0 3 4;");
        due.is("up from 4", lifts.crowd(4, true), 2);
        due.is("down from 4", lifts.crowd(4, false), 1);
        due.is("up from 3", lifts.crowd(3, true), 1);
        due.is("down from 3", lifts.crowd(3, false), 0);
        due.is("up from 8", lifts.crowd(8, true), 0);
        due.isThrown("floor 9", ARGUMENT, () -> lifts.crowd(9, true));
        due.isThrown("floor -1", ARGUMENT, () -> lifts.crowd(-1, false));
        due.is("aboard ones not", Due.behind(8, ONE).crowd(3, true), 0);
        due.is("done ones not", Due.behind(20, ONE).crowd(3, true), 0);

        due.promise(44, "meanCost");
        due.isReal("of 4 and 4", lifts.meanCost(0), 4.0);
        due.isReal("of 3 and 5", lifts.meanCost(4), 4.0);
        lifts.setStopped(0, true);
        due.isReal("with a stopped one", lifts.meanCost(4), 4.0);
        due.isReal("a half", Due.loaded("floors 9;car 0 1;car 7 1;call 0 4 8;").meanCost(0), 3.5);
        due.isReal("a third", Due.loaded("floors 9;car 0 1;car 7 1;car 7 1;call 0 4 8;").meanCost(0), 10.0 / 3.0);
        due.isThrown("call 5", INDEX, () -> lifts.meanCost(5));
        due.isThrown("call -1", INDEX, () -> lifts.meanCost(-1));
    }
}
