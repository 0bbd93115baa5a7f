/** The six phases of a tick, at run (promise 22). Times are worked out by hand. */
public final class BusTest {
    private static final Due due = new Due();

    public static void main(String[] arguments) {
        making();
        draws();
        jams();
        announcements();
        claimsAndReports();
        rounds();
        decisions();
        doors();
        rooms();
        ways();
        most();
        due.end();
    }

    private static void making() {
        due.promise(22, "run, phase 1");
        BusLifts lifts = Due.loaded("floors 9;car 0 1;call 2 1 2;call 0 3 4;call 1 5 6;");
        int[][] states = {{0, 1, 0}, {0, 1, 1}, {1, 1, 1}};
        for (int tick = 0; tick < 3; tick++) {
            lifts.run(1);
            for (int call = 0; call < 3; call++) {
                due.is("state of " + call + " behind tick " + tick, lifts.call(call, 3), states[tick][call]);
            }
        }
        BusLifts late = Due.loaded("floors 9;car 0 1;call 999 1 2;");
        late.run(500);
        late.run(499);
        due.is("not at 998", late.call(0, 3), 0);
        late.run(1);
        due.is("at 999", late.call(0, 3), 1);
    }

    private static void draws() {
        due.promise(22, "run, draws of phase 2");
        // The first draw from the seed 1 is 38.
        BusLifts heard = Due.behind(2, "floors 9;car 0 1;noise 38;call 0 3 4;");
        due.is("a draw of the noise is heard", heard.decides(0, 0), 3);
        BusLifts lost = Due.behind(2, "floors 9;car 0 1;noise 39;call 0 3 4;");
        due.is("a draw below the noise is not", lost.decides(0, 0), -1);
        due.is("it is lost", lost.messages(0, true), 1);
        due.is("for this car", lost.hasLost(0, 0, 0), true);
        due.is("the seed behind a draw", lost.count(9), 1103527590);

        // The draws from the seed 1 go on: each message to each other car by number, then to the station.
        int[] draws = draws(1, 8);
        int[] wanted = {38, 26, 13, 83, 19, 95, 78, 87};
        for (int index = 0; index < 8; index++) {
            due.is("draw " + index, draws[index], wanted[index]);
        }
        BusLifts two = Due.behind(3, "floors 10;car 0 2;car 9 2;noise 30;seed 1;call 0 3 6;");
        due.is("car 0 heard the announcement", two.hasLost(0, 0, 0), false);
        due.is("car 1 did not", two.hasLost(1, 0, 0), true);
        due.is("the bid of car 0 is lost for car 1", two.hasLost(1, 0, 1), true);
        due.is("and not for the station", two.messages(1, true), 1);
        due.is("draws: 2 and 2", two.count(9), seedBehind(1, 4));
        two.set(0, 19);
        two.run(2);
        due.is("the claim came to car 1, its draw was 19", two.hasLost(1, 0, 2), false);
        due.is("and to the station, whose draw was 95", two.call(0, 8), 0);
        BusLifts unclaimed = Due.behind(5, "floors 10;car 0 2;noise 38;seed 1;call 0 3 6;");
        due.is("the bid and the claim are lost for the station", unclaimed.messages(-1, true), 2);
        due.is("it does not know of it", unclaimed.call(0, 8), -1);
        due.is("nothing is lost for the car", unclaimed.hasLost(0, 0, 2), false);

        BusLifts twice = Due.loaded("floors 10;car 0 2;patience 3;call 0 3 6;");
        twice.setJammed(0, true);
        for (int tick = 0; tick < 12; tick++) {
            twice.run(1);
            due.is("lost from 1 on, however often", twice.hasLost(0, 0, 0), tick >= 1);
        }
        due.is("lost at 1, 4, 7 and 10", twice.messages(0, true), 4);

        BusLifts jammed = Due.loaded("floors 10;car 0 2;car 9 2;call 0 3 6;");
        jammed.setJammed(0, true);
        jammed.setJammed(1, true);
        jammed.run(2);
        due.is("a draw also where it is lost anyway", jammed.count(9), seedBehind(1, 2));
    }

    private static int seedBehind(int seed, int number) {
        int now = seed;
        for (int draw = 0; draw < number; draw++) {
            now = now * 1103515245 + 12345;
        }
        return now;
    }

    private static int[] draws(int seed, int number) {
        int[] draws = new int[number];
        for (int draw = 0; draw < number; draw++) {
            draws[draw] = (int) (((seedBehind(seed, draw + 1) & 0xffffffffL) >> 16) % 100);
        }
        return draws;
    }

    private static void jams() {
        due.promise(22, "run, jammed cars in phase 2");
        BusLifts lifts = Due.behind(2, "floors 10;car 0 2;car 9 2;car 5 2;call 0 4 8;");
        lifts.setJammed(1, true);
        lifts.run(1);
        due.is("car 0 notes car 2", lifts.noted(0, 0, 2), 1);
        due.is("car 0 does not note the jammed one", lifts.noted(0, 0, 1), -1);
        due.is("the jammed one notes nobody", lifts.noted(1, 0, 2), -1);
        due.is("lost: two to it, three from it", lifts.messages(1, true), 5);
        due.is("not for the others among themselves", lifts.hasLost(2, 0, 1), true);
        lifts.setJammed(1, false);
        lifts.run(1);
        due.is("it decides for itself", lifts.holds(1, 0), true);
        lifts.run(1);
        due.is("and hears the better claim", lifts.holds(1, 0), false);
        due.is("which the station heard after the claim of car 1", lifts.call(0, 8), 2);
    }

    private static void announcements() {
        due.promise(22, "run, announcements in phase 2");
        BusLifts lifts = Due.behind(5, "floors 10;car 0 4;weight 5;call 0 3 6;call 4 8 9;call 4 9 8;");
        lifts.run(1);
        due.is("own cost with a held call", lifts.ownCost(0, 1), 6 + 5);
        due.is("own cost of the other", lifts.ownCost(0, 2), 7 + 5);
        due.is("decides at t + 2", lifts.decides(0, 1), 7);
        due.is("bids are sent with it", lifts.count(12), 2);

        // Stopped before its decision, car 0 leaves the call to car 1, which had noted its bid.
        BusLifts again = Due.behind(3, "floors 10;car 0 2;car 9 2;call 0 3 6;");
        again.setStopped(0, true);
        due.is("no decision is left", again.decides(0, 0), -1);
        again.run(1);
        due.is("car 1 keeps to the bid", again.holds(1, 0), false);
        due.is("nobody holds it", again.orphans(), 1);
        again.run(4);
        due.is("car 1 forgot the bid", again.noted(1, 0, 0), -1);
        due.is("car 1 will decide at 9", again.decides(1, 0), 9);
        due.is("the stopped car keeps its notes", again.noted(0, 0, 1), 6);
        due.is("the stopped car does not decide", again.decides(0, 0), -1);
        again.run(1);
        due.is("one bid for the second announcement", again.messages(1, false), 3);
        again.run(1);
        due.is("car 1 takes it", again.holds(1, 0), true);

        // The holder answers an announcement by a claim with the cost with which it holds the call.
        BusLifts holder = Due.behind(4, "floors 20;car 0 2;car 19 2;call 0 9 16;");
        holder.setJammed(0, true);
        holder.run(1);
        holder.setJammed(0, false);
        due.is("the claim is lost", holder.call(0, 8), -1);
        holder.run(2);
        due.is("announced again at 6", holder.call(0, 10), 6);
        due.is("not heard yet", holder.messages(2, false), 1);
        holder.run(1);
        due.is("claimed again", holder.messages(2, false), 2);
        due.is("car 0 does not bid", holder.messages(1, false), 3);
        due.is("car 0 will not decide", holder.decides(0, 0), -1);
        due.is("its cost is the old one", holder.ownCost(0, 0), 9);
        due.is("car 1 will", holder.decides(1, 0), 9);
        holder.run(1);
        due.is("car 1 will not after the claim", holder.decides(1, 0), -1);
        due.is("the station heard it", holder.call(0, 8), 0);
        due.is("at 8", holder.claimLeft(0), 8 + 60 - 9);
        due.is("car 0 has no bid of car 1 noted from the new round", holder.noted(0, 0, 1), 10);

        // A call that does not wait any more when it is announced again brings no bids.
        BusLifts gone = Due.behind(3, "floors 10;car 4 2;car 0 2;patience 3;call 0 4 8;");
        gone.run(1);
        due.is("announced at 3 and aboard at 3", gone.call(0, 10) + gone.call(0, 5), 6);
        gone.run(1);
        due.is("no bids", gone.messages(1, false), 2);
        due.is("the bids stay noted", gone.noted(1, 0, 0), 0);
    }

    private static void claimsAndReports() {
        due.promise(22, "run, claims and reports in phase 2");
        // Both hold the call; the claims come through: the better one stays.
        BusLifts lifts = Due.behind(2, "floors 10;car 0 2;car 9 2;call 0 4 8;");
        lifts.setJammed(0, true);
        lifts.run(1);
        lifts.setJammed(0, false);
        lifts.run(1);
        due.is("both hold it", lifts.doubles(), 1);
        lifts.run(1);
        due.is("the better one", lifts.holds(0, 0), true);
        due.is("the other", lifts.holds(1, 0), false);
        due.is("the station minds the later claim", lifts.call(0, 8), 1);
        BusLifts tie = Due.behind(2, "floors 9;car 0 2;car 8 2;call 0 4 8;");
        tie.setJammed(0, true);
        tie.run(1);
        tie.setJammed(0, false);
        tie.run(2);
        due.is("the smaller number on a tie", tie.holds(0, 0), true);
        due.is("the greater number on a tie", tie.holds(1, 0), false);

        // A stopped car hears claims and reports.
        BusLifts stopped = Due.behind(2, "floors 10;car 0 2;car 9 2;call 0 4 8;");
        stopped.setJammed(0, true);
        stopped.run(2);
        stopped.setJammed(0, false);
        stopped.setStopped(1, true);
        stopped.run(1);
        due.is("a claim", stopped.holds(1, 0), false);
        BusLifts report = Due.behind(2, "floors 10;car 0 2;car 9 2;call 0 4 8;");
        report.setJammed(0, true);
        report.run(3);
        report.setStopped(1, true);
        report.run(2);
        report.setJammed(0, false);
        report.run(1);
        due.is("held before the report", report.holds(1, 0), true);
        due.is("aboard car 0", report.call(0, 4), 0);
        report.run(1);
        due.is("a report", report.holds(1, 0), false);
        report.setStopped(1, false);
        report.run(10);
        due.is("no stop for nobody", report.car(1, 9), 0);

        // Car 0 hears the second announcement at 5; the claims of car 1 are lost, its report is not.
        BusLifts reported = Due.behind(4, "floors 10;patience 4;car 0 2;car 9 2;call 0 7 9;");
        reported.setJammed(1, true);
        reported.run(2);
        reported.setJammed(1, false);
        due.is("car 0 will decide", reported.decides(0, 0), 7);
        reported.run(1);
        due.is("car 0 will not, after the report", reported.decides(0, 0), -1);
        due.is("no claim came", reported.call(0, 8), -1);

        // The station notes a claim also of a call that is aboard.
        BusLifts aboard = Due.behind(4, "floors 10;car 3 2;call 0 3 6;");
        due.is("aboard at 3", aboard.call(0, 5), 3);
        due.is("claim not heard", aboard.call(0, 8), -1);
        aboard.run(1);
        due.is("claim heard", aboard.call(0, 8), 0);
        due.is("no time is left of it", aboard.claimLeft(0), -1);
    }

    private static void rounds() {
        due.promise(22, "run, phase 3");
        BusLifts lifts = Due.loaded("floors 9;car 0 1;patience 5;call 0 4 8;call 1 3 2;");
        lifts.setStopped(0, true);
        lifts.run(5);
        due.is("one round at 5", lifts.call(0, 7), 1);
        lifts.run(1);
        due.is("two behind 5", lifts.call(0, 7), 2);
        due.is("one of the later call", lifts.call(1, 7), 1);
        due.is("sent", lifts.messages(0, false), 3);
        lifts.run(1);
        due.is("two of the later call", lifts.call(1, 7), 2);
        lifts.set(1, 9);
        lifts.run(7);
        due.is("not with more patience", lifts.call(0, 7), 2);
        lifts.run(1);
        due.is("9 ticks after 5", lifts.call(0, 10), 14);
        due.is("a call aboard is not announced again", Due.behind(60, "floors 30;car 3 2;patience 3;call 0 3 29;").call(0, 7), 2);
        due.is("a claimed call is not", Due.behind(25, "floors 30;car 0 1;call 0 29 0;").call(0, 7), 1);
        BusLifts expired = Due.behind(4, "floors 9;car 0 1;patience 4;call 0 5 2;");
        expired.setStopped(0, true);
        expired.run(40);
        due.is("claimed at 4, still at 43", expired.call(0, 7), 1);
        expired.set(1, 5);
        expired.run(5);
        due.is("with more patience", expired.call(0, 8), 0);
        expired.run(6);
        due.is("no more at 54", expired.call(0, 8), -1);
        due.is("announced at 54", expired.call(0, 10), 54);
    }

    private static void decisions() {
        due.promise(22, "run, phase 4");
        BusLifts tie = Due.behind(4, "floors 9;car 8 2;car 0 2;call 0 4 8;");
        due.is("the smaller number on a tie", tie.holds(0, 0), true);
        due.is("the greater one not", tie.holds(1, 0), false);
        due.is("a claim is sent", tie.messages(2, false), 1);
        BusLifts forgot = Due.behind(2, "floors 9;car 0 2;call 0 4 8;");
        forgot.setStopped(0, true);
        forgot.setStopped(0, false);
        forgot.run(3);
        due.is("a stop takes the decision for good", forgot.holds(0, 0), false);
        due.is("no decision is left", forgot.decides(0, 0), -1);
        // Car 0 hears the second announcement at 5, then it is jammed and does not hear that car 1 boards at 5.
        BusLifts vain = Due.behind(4, "floors 10;patience 4;car 0 2;car 9 2;call 0 7 9;");
        vain.setJammed(1, true);
        vain.run(1);
        vain.setJammed(1, false);
        vain.run(1);
        due.is("aboard at 5", vain.call(0, 5), 5);
        vain.setJammed(0, true);
        vain.run(1);
        due.is("it will decide", vain.decides(0, 0), 7);
        vain.run(1);
        due.is("about a call that does not wait", vain.holds(0, 0), false);
        due.is("and will not again", vain.decides(0, 0), -1);
        due.is("nor claim it", vain.messages(2, false), 2);
    }

    private static void doors() {
        due.promise(22, "run, doors in phase 5");
        BusLifts lifts = Due.behind(7, "floors 10;car 0 2;door 3;call 0 3 6;");
        for (int door = 3; door >= 0; door--) {
            due.is("door", lifts.car(0, 2), door);
            due.is("floor", lifts.car(0, 0), 3);
            lifts.run(1);
        }
        due.is("then it goes", lifts.car(0, 0), 4);
        due.is("done in", lifts.doneIn(50), 3);
        due.is("with door 0", Due.loaded("floors 10;car 0 2;door 0;call 0 3 6;").doneIn(50), 11);
        BusLifts stopped = Due.behind(7, "floors 10;car 0 2;door 3;call 0 3 6;");
        stopped.setStopped(0, true);
        stopped.run(5);
        due.is("a stopped car keeps its door", stopped.car(0, 2), 3);
        due.is("and its floor", stopped.car(0, 0), 3);
        stopped.setStopped(0, false);
        stopped.run(4);
        due.is("then it goes on", stopped.car(0, 0), 4);
        due.is("stops", stopped.car(0, 8), 1);
    }

    private static void rooms() {
        due.promise(22, "run, stops in phase 5");
        BusLifts lifts = Due.behind(4, "floors 10;car 0 2;call 0 0 5;call 0 0 7;call 0 0 5;");
        due.is("two come aboard, by number", lifts.riders(0), 3);
        due.is("the third is held on", lifts.holds(0, 2), true);
        due.is("reports", lifts.messages(3, false), 2);
        due.is("one stop", lifts.car(0, 8), 1);
        lifts.run(2);
        due.is("a full car does not stop again", lifts.car(0, 0), 1);
        lifts.run(4);
        due.is("it comes to 5", lifts.car(0, 0), 5);
        lifts.run(1);
        due.is("lets off call 0 alone", lifts.riders(0), 2);
        lifts.run(2);
        due.is("goes to the nearest, 7 before 0", lifts.car(0, 0), 6);
        due.is("a full car passes by", Due.behind(8, "floors 10;car 0 1;call 0 0 5;call 0 2 3;").car(0, 0), 3);

        // At its floor someone gets off and makes room for one who waits there.
        BusLifts change = Due.behind(12, "floors 10;car 0 1;call 0 0 5;call 2 5 7;");
        due.is("off at 10", change.call(0, 6), 10);
        due.is("in at 10", change.call(1, 5), 10);
        due.is("in one stop", change.car(0, 8), 2);
        due.is("calls done in the run", Due.loaded("floors 10;car 0 1;call 0 0 5;call 0 0 7;").run(27), 2);
        due.is("one call done in the run", Due.loaded("floors 10;car 0 1;call 0 0 5;call 0 0 7;").run(26), 1);

        BusLifts pieces = Due.behind(20, "floors 10;car 0 1;call 0 0 5;call 0 0 7;");
        due.is("done before", pieces.count(11), 1);
        due.is("done in the run alone", pieces.run(7), 1);

        // Another car took it first: the later car stops for nobody even if it is full.
        BusLifts full = Due.behind(2, "floors 9;car 4 1;car 0 1;call 0 4 8;call 0 0 4;");
        full.setJammed(1, true);
        full.run(2);
        due.is("car 1 took call 1 and holds call 0", full.riders(1) + 10 * full.car(1, 3), 2 + 10);
        full.run(6);
        due.is("car 1 at 4", full.car(1, 0), 4);
        full.run(1);
        due.is("nobody", full.car(1, 9), 1);
    }

    private static void most() {
        due.promise(22, "run, with as much as there can be");
        StringBuilder text = new StringBuilder("floors 30;car 0 8;car 29 8;car 15 8;car 7 1;patience 3;door 0;");
        for (int call = 0; call < 24; call++) {
            text.append("call 0 ").append(call).append(' ').append(29 - call).append(';');
        }
        BusLifts lifts = Due.behind(1, text.toString());
        due.is("announcements", lifts.count(12), 24);
        lifts.run(1);
        due.is("bids", lifts.count(12), 96);
        for (int car = 0; car < 4; car++) {
            lifts.setJammed(car, true);
        }
        lifts.run(2);
        due.is("announcements, claims and reports", lifts.count(12), 24 + 96 + lifts.messages(3, false));
        due.is("each holds what it did not take", lifts.car(3, 3), 24 - lifts.served(3));
        for (int car = 0; car < 4; car++) {
            lifts.setJammed(car, false);
            due.is("print", lifts.printCar(car), 30);
            due.is("a goal", lifts.goal(car) >= 0, true);
            due.is("the 24th call", lifts.noted(car, 23, 3 - car), -1);
        }
        due.is("held by more than one", lifts.doubles(), (1 << 24) - 1 & ~heldByFew(lifts, 3));
        due.is("held by none", lifts.orphans(), 0);
        due.is("all made", lifts.waitsWithin(0, 999), 24);
        due.is("rounds", lifts.allRounds(), 48);
        due.isReal("none late", lifts.lateShare(), 0.0);
        due.is("crowd", lifts.crowd(23, false), 1);
        due.is("the first with the most rounds", lifts.mostRounds(), 0);
        due.is("the busiest", lifts.busiest() >= 0, true);
        due.is("known best", lifts.knownBest(3, 23), 3);
        due.isThrown("held 24", java.util.NoSuchElementException.class, () -> lifts.held(0, 24));
        lifts.run(500);
        due.isReal("mean wait", lifts.meanWait() >= 3.0 ? 1.0 : 0.0, 1.0);
        due.is("done", lifts.count(11), 24);
        due.is("served", lifts.served(0) + lifts.served(1) + lifts.served(2) + lifts.served(3), 24);
    }

    /** The calls that at most one car holds, as holds tells it. */
    private static int heldByFew(BusLifts lifts, int lastCar) {
        int mask = 0;
        for (int call = 0; call < lifts.count(2); call++) {
            int holders = 0;
            for (int car = 0; car <= lastCar; car++) {
                holders += lifts.holds(car, call) ? 1 : 0;
            }
            mask |= holders > 1 ? 0 : 1 << call;
        }
        return mask;
    }

    private static void ways() {
        due.promise(22, "run, ways in phase 5");
        BusLifts lifts = Due.behind(4, "floors 10;car 5 2;call 0 3 0;call 0 7 9;");
        due.is("the lower one on a tie", lifts.car(0, 0), 4);
        BusLifts up = Due.behind(4, "floors 10;car 5 2;call 0 2 0;call 0 7 9;");
        due.is("the nearest", up.car(0, 0), 6);
        due.is("floors gone", up.car(0, 7), 1);
        BusLifts none = Due.behind(9, "floors 10;car 5 2;");
        due.is("without any it stays", none.car(0, 0), 5);
        due.is("and goes no floors", none.car(0, 7), 0);
        // On its way to 9 with one aboard it takes the nearer call first.
        BusLifts mixed = Due.behind(6, "floors 10;car 5 2;call 0 5 9;call 0 4 0;");
        due.is("to the held call", mixed.car(0, 0), 4);

        due.isThrown("run 0", IllegalArgumentException.class, () -> lifts.run(0));
        due.isThrown("run -1", IllegalArgumentException.class, () -> lifts.run(-1));
        due.isThrown("run 501", IllegalArgumentException.class, () -> lifts.run(501));
        due.is("no change", lifts.count(13), 1);
        due.is("run 500", lifts.run(500), 2);
        due.is("time", lifts.count(3), 504);
    }
}
