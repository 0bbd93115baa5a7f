/**
 * The boundary cases that the terms "Messages", the cost, the phases of a tick and the causes name, and run
 * (promise 22), in the document's order. Times are worked out by hand.
 */
public final class EdgeTickTest {
    private static final Due due = new Due();
    // The car takes the call at 3, comes to it at 5, boards at 6 and lets off at 11.
    private static final String ONE = "floors 10;car 0 2;call 0 3 6;";
    // Car 0 takes call 0 (boards at 6, off at 11), car 1 call 1 (boards at 5, off at 13).
    private static final String TWO = "floors 10;car 0 2;car 9 2;call 0 3 6;call 0 7 1;";
    // Car 0 comes to the call at 6 and boards at 7; car 1 would board at 8.
    private static final String RACE = "floors 10;car 0 2;car 9 2;call 0 4 8;";

    public static void main(String[] arguments) {
        delivery();
        receivers();
        everySeed();
        wrappingSeed();
        leastAndMostNoise();
        jammedNow();
        costs();
        ties();
        making();
        stoppedHearers();
        holdersOfGoneCalls();
        claims();
        replacedBids();
        stationMinds();
        patience();
        runningOutClaims();
        deciding();
        doors();
        capacity();
        gettingOff();
        nearest();
        nobody();
        causes();
        late();
        ticks();
        due.end();
    }

    private static void delivery() {
        due.promise(22, "what is sent in a tick is delivered in the next tick");
        int[] onTheWay = {0, 1, 1, 0, 1, 0, 0, 1, 0};
        int[] deciding = {-1, -1, 3, 3, -1, -1, -1, -1, -1};
        int[] claimed = {-1, -1, -1, -1, -1, 0, 0, 0, 0};
        BusLifts lifts = Due.loaded(ONE);
        for (int time = 0; time < onTheWay.length; time++) {
            due.is("on their way at " + time, lifts.count(12), onTheWay[time]);
            due.is("decides, at " + time, lifts.decides(0, 0), deciding[time]);
            due.is("claimed, at " + time, lifts.call(0, 8), claimed[time]);
            lifts.run(1);
        }
    }

    /** The seed behind some draws, without Java's wrap-around. */
    private static int seedBehind(long seed, int draws) {
        long now = seed;
        for (int draw = 0; draw < draws; draw++) {
            now = (1103515245L * now + 12345L) % 4294967296L;
        }
        return (int) now;
    }

    private static int draw(long seed, int number) {
        return (int) ((seedBehind(seed, number) & 4294967295L) / 65536 % 100);
    }

    private static void receivers() {
        due.promise(22, "to all cars but the sender, by number, and then, if it is from a car, to the station");
        StringBuilder text = new StringBuilder("floors 9;call 0 3 4;");
        for (int cars = 1; cars <= 4; cars++) {
            text.append("car 0 1;");
            BusLifts lifts = Due.behind(1, text.toString());
            due.is("no draw yet", lifts.count(9), 1);
            lifts.run(1);
            due.is("an announcement to " + cars + " cars", lifts.count(9), seedBehind(1, cars));
            lifts.run(1);
            due.is("as many bids to the others and the station", lifts.count(9), seedBehind(1, cars + cars * cars));
            lifts.run(2);
            due.is("one claim", lifts.count(9), seedBehind(1, cars + cars * cars + cars));
        }
        // The draws from the seed 1 are 38, 26, 13, 83, then 19, 95, 78, 87.
        BusLifts four = Due.behind(3, text + "noise 27;");
        boolean[] lost = {false, true, true, false};
        for (int car = 0; car < 4; car++) {
            due.is("the announcement for car " + car, four.hasLost(car, 0, 0), lost[car]);
        }
        due.is("two bids", four.messages(1, false), 2);
        due.is("of car 0 to car 1: 19", four.noted(1, 0, 0), -1);
        due.is("of car 0 to car 2: 95", four.noted(2, 0, 0), 3);
        due.is("of car 0 to car 3: 78", four.noted(3, 0, 0), 3);
        for (int car = 0; car < 3; car++) {
            due.is("of car 3 to car " + car, four.noted(car, 0, 3), draw(1, 9 + car) < 27 ? -1 : 3);
        }
    }

    private static void everySeed() {
        due.promise(22, "lost if the draw is less than the noise, for every seed");
        for (int first = 0; first <= 9999; first += 50) {
            BusLifts lifts = new BusLifts();
            for (int seed = first; seed < first + 50; seed++) {
                Due.load(lifts, "floors 2;car 0 1;call 0 0 1;seed " + seed + ";noise " + seed % 91 + ";");
                lifts.run(2);
                boolean lost = draw(seed, 1) < seed % 91;
                due.is("seed " + seed, lifts.decides(0, 0), lost ? -1 : 3);
                due.is("losses with seed " + seed, lifts.messages(0, true), lost ? 1 : 0);
            }
        }
        due.promise(22, "a draw of just the noise is heard, of one less is lost");
        // The draws for a lone car are 38 for the announcement, 26 for the bid, 13 for the claim.
        due.is("13 with noise 13", Due.behind(5, "floors 9;car 0 1;call 0 8 0;noise 13;").call(0, 8), 0);
        due.is("13 with noise 14", Due.behind(5, "floors 9;car 0 1;call 0 8 0;noise 14;").call(0, 8), -1);
        due.is("26 with noise 26", Due.behind(5, "floors 9;car 0 1;call 0 8 0;noise 26;").messages(1, true), 0);
        due.is("26 with noise 27", Due.behind(5, "floors 9;car 0 1;call 0 8 0;noise 27;").messages(1, true), 1);
        due.is("0 with noise 0", Due.behind(2, "floors 2;car 0 1;call 0 0 1;seed 0;").decides(0, 0), 3);
        due.is("0 with noise 1", Due.behind(2, "floors 2;car 0 1;call 0 0 1;seed 0;noise 1;").decides(0, 0), -1);
    }

    private static void wrappingSeed() {
        due.promise(22, "the seed, an int, wraps");
        int[] seeds = {1, 1103527590, -1770082073, 662824084, -999580867, -112468174};
        BusLifts lifts = Due.loaded("floors 2;car 0 1;patience 3;call 0 0 1;");
        lifts.setStopped(0, true);
        for (int draws = 0; draws < seeds.length; draws++) {
            due.is("behind " + draws + " draws", lifts.count(9), seeds[draws]);
            due.is("without wrap-around", lifts.count(9), seedBehind(1, draws));
            lifts.run(draws == 0 ? 2 : 3);
        }
        due.promise(22, "shifted right without sign");
        for (int draws = 1; draws < seeds.length; draws++) {
            int number = draws;
            BusLifts heard = Due.loaded("floors 2;car 0 1;patience 3;call 0 0 1;");
            heard.setStopped(0, true);
            heard.run(3 * number - 2);
            heard.set(0, draw(1, number));
            heard.run(1);
            due.is("draw " + draws + " with its noise", heard.messages(0, true), 0);
            heard.undo();
            heard.set(0, draw(1, number) + 1);
            heard.run(1);
            due.is("draw " + draws + " with one more", heard.messages(0, true), 1);
        }
    }

    private static void leastAndMostNoise() {
        due.promise(22, "the least and the greatest noise");
        BusLifts lifts = Due.loaded("floors 9;patience 3;car 0 1;car 8 1;call 0 1 2;call 5 7 3;call 9 4 0;call 9 4 8;");
        lifts.run(500);
        due.is("nothing is lost with 0", lifts.messages(-1, true), 0);
        due.is("all are done", lifts.count(11), 4);
        BusLifts noisy = Due.loaded("floors 2;car 0 1;patience 3;call 0 0 1;noise 90;");
        noisy.setStopped(0, true);
        noisy.run(301);
        int lost = 0;
        for (int number = 1; number <= 100; number++) {
            lost += draw(1, number) < 90 ? 1 : 0;
        }
        due.is("announcements", noisy.messages(0, false), 101);
        due.is("of which 100 are delivered, some heard with 90, too", noisy.messages(0, true), lost);
        due.is("some, but not all", lost > 0 && lost < 100, true);
    }

    private static void jammedNow() {
        due.promise(22, "lost if the receiver is a jammed car, or if the sender is a car that is jammed now");
        BusLifts now = Due.behind(4, TWO);
        now.setJammed(0, true);
        now.run(1);
        due.is("to it: one; from it: two", now.messages(2, true), 3);
        due.is("its claim, which was sent before", now.call(0, 8), -1);
        due.is("the claim of the other comes to the station", now.call(1, 8), 1);
        due.is("lost for the jammed car", now.hasLost(0, 1, 2), true);
        due.is("lost for the other car", now.hasLost(1, 0, 2), true);
        BusLifts before = Due.behind(3, TWO);
        before.setJammed(0, true);
        before.run(1);
        before.setJammed(0, false);
        before.run(1);
        due.is("jammed when it sent, but not now", before.messages(-1, true), 0);
        due.is("so its claim is heard", before.call(0, 8), 0);
        due.promise(22, "a draw, whether it is lost anyway or not");
        BusLifts all = Due.loaded(TWO);
        all.setJammed(0, true);
        all.setJammed(1, true);
        all.set(0, 90);
        all.run(2);
        due.is("two announcements to two jammed cars", all.count(9), seedBehind(1, 4));
        due.is("each is lost once", all.messages(0, true), 4);
        due.promise(22, "the station is not jammed");
        BusLifts station = Due.behind(4, ONE);
        station.run(1);
        due.is("it hears the claim", station.call(0, 8), 0);
    }

    private static void costs() {
        due.promise(15, "the distance, plus the weight times the calls that the car holds and the people aboard");
        StringBuilder text = new StringBuilder("floors 30;car 0 8;car 29 1;weight 20;");
        for (int call = 0; call < 9; call++) {
            text.append("call 0 0 29;");
        }
        BusLifts lifts = Due.behind(4, text.toString());
        due.is("eight aboard, one held, no distance", lifts.costNow(0, 0), 20 * 9);
        due.is("the greatest distance, no load", lifts.costNow(1, 0), 29);
        lifts.set(2, 0);
        due.is("no weight, no distance", lifts.costNow(0, 0), 0);
        lifts.set(2, 1);
        due.is("the least weight", lifts.costNow(0, 0), 9);
    }

    private static void ties() {
        due.promise(22, "a bid comes before another one on a tie if the number of its car is less");
        for (int stopped = 0; stopped < 4; stopped++) {
            BusLifts lifts = Due.loaded("floors 9;car 4 1;car 2 1;car 4 1;car 2 1;call 0 3 4;");
            for (int car = 0; car < stopped; car++) {
                lifts.setStopped(car, true);
            }
            lifts.run(4);
            for (int car = 0; car < 4; car++) {
                due.is("car " + car + " holds it, " + stopped + " stopped", lifts.holds(car, 0), car == stopped);
            }
            due.is("one claim", lifts.messages(2, false), 1);
        }
        due.promise(22, "a bid comes before another one if its cost is less, whatever the numbers");
        BusLifts less = Due.behind(4, "floors 9;car 0 1;car 1 1;car 8 1;car 2 1;call 0 5 4;");
        for (int car = 0; car < 4; car++) {
            due.is("3 of car 2 and of car 3", less.holds(car, 0), car == 2);
        }
    }

    private static void making() {
        due.promise(22, "each coming call with the time t or an earlier one is made");
        for (int time : new int[] {0, 1, 7, 500, 999}) {
            BusLifts lifts = Due.behind(time, "floors 9;car 0 1;call " + time + " 1 2;");
            due.is("not before " + time, lifts.call(0, 3), 0);
            due.is("its rounds before", lifts.call(0, 7), 0);
            due.is("announced before", lifts.call(0, 10), -1);
            lifts.run(1);
            due.is("at " + time, lifts.call(0, 3), 1);
            due.is("its rounds", lifts.call(0, 7), 1);
            due.is("announced at " + time, lifts.call(0, 10), time);
        }
        due.promise(22, "in the order of the numbers");
        BusLifts order = Due.behind(2, "floors 9;car 0 1;noise 27;call 0 3 4;call 0 5 4;");
        due.is("draw 38 for call 0", order.hasLost(0, 0, 0), false);
        due.is("draw 26 for call 1", order.hasLost(0, 1, 0), true);
    }

    private static void stoppedHearers() {
        due.promise(22, "a stopped car hears bids, claims and reports, too");
        BusLifts bids = Due.behind(2, TWO);
        bids.setStopped(0, true);
        bids.run(1);
        due.is("a bid", bids.noted(0, 0, 1), 6);
        stoppedHearsClaim();
        stoppedHearsReport();
        due.promise(22, "a car that hears an announcement and is not stopped");
        BusLifts lifts = Due.loaded(TWO);
        lifts.setStopped(0, true);
        lifts.run(3);
        due.is("a stopped one does not bid", lifts.messages(1, false), 2);
        due.is("nor will it decide", lifts.decides(0, 0), -1);
        due.is("the other does not note it", lifts.noted(1, 0, 0), -1);
        // A stopped holder whose claim was lost: announced again at 6 and 12.
        BusLifts holder = Due.behind(4, "floors 20;car 0 2;call 0 9 16;");
        holder.setStopped(0, true);
        holder.setJammed(0, true);
        holder.run(1);
        holder.setJammed(0, false);
        holder.run(3);
        due.is("announced again", holder.call(0, 10), 6);
        due.is("a stopped holder does not claim", holder.messages(2, false), 1);
        due.is("but holds it", holder.holds(0, 0), true);
        holder.setStopped(0, false);
        holder.run(6);
        due.is("it does so, going", holder.messages(2, false), 2);
        due.is("with the cost with which it holds the call", holder.ownCost(0, 0), 9);
    }

    private static void stoppedHearsClaim() {
        BusLifts lifts = Due.behind(2, RACE);
        lifts.setJammed(0, true);
        lifts.run(1);
        lifts.setJammed(0, false);
        lifts.run(1);
        due.is("both hold the call", lifts.doubles(), 1);
        lifts.setStopped(0, true);
        lifts.setStopped(1, true);
        lifts.run(1);
        due.is("a claim", lifts.holds(1, 0), false);
        due.is("the better one holds on", lifts.holds(0, 0), true);
    }

    private static void stoppedHearsReport() {
        BusLifts lifts = Due.behind(2, RACE);
        lifts.setJammed(1, true);
        lifts.run(6);
        due.is("aboard at 7", lifts.call(0, 5), 7);
        due.is("the other car still holds it", lifts.holds(1, 0), true);
        lifts.setStopped(1, true);
        lifts.setJammed(1, false);
        lifts.run(1);
        due.is("a report", lifts.holds(1, 0), false);
        lifts.setStopped(1, false);
        lifts.run(20);
        due.is("so it makes no stop for nobody", lifts.car(1, 9), 0);
        due.promise(22, "a car that hears a report will not decide any more");
        // Car 0 hears the second announcement at 5; the claims of car 1 are lost, its report of 5 is not.
        BusLifts deciding = Due.behind(4, "floors 10;patience 4;car 0 2;car 9 2;call 0 7 9;");
        deciding.setJammed(1, true);
        deciding.run(2);
        deciding.setJammed(1, false);
        due.is("car 0 will decide", deciding.decides(0, 0), 7);
        deciding.run(1);
        due.is("it will not", deciding.decides(0, 0), -1);
    }

    private static void holdersOfGoneCalls() {
        due.promise(22, "if it holds the call, it sends a claim, also if the call does not wait any more");
        BusLifts lifts = Due.behind(2, "floors 10;patience 3;car 4 2;car 0 2;call 0 4 8;");
        lifts.setJammed(1, true);
        lifts.run(1);
        lifts.setJammed(1, false);
        lifts.run(1);
        due.is("announced at 3 and aboard at 3", lifts.call(0, 10) + lifts.call(0, 5), 6);
        due.is("car 1 holds it", lifts.holds(1, 0), true);
        due.is("an announcement, two claims, a report", lifts.count(12), 4);
        lifts.run(1);
        due.is("a third claim", lifts.messages(2, false), 3);
        due.is("no bid", lifts.messages(1, false), 2);
        due.is("the better claim came behind the announcement", lifts.holds(1, 0), false);
        due.promise(22, "otherwise, if the call waits");
        due.is("car 0 does not bid for its own passenger", lifts.decides(0, 0), -1);
    }

    private static void claims() {
        due.promise(22, "a car that hears a claim will not decide any more, also if its own cost is less");
        BusLifts lifts = Due.behind(1, RACE);
        lifts.setJammed(0, true);
        lifts.run(3);
        lifts.setJammed(1, true);
        lifts.run(1);
        lifts.setJammed(0, false);
        lifts.setJammed(1, false);
        lifts.run(3);
        due.is("announced again", lifts.call(0, 10), 6);
        due.is("car 0 will decide", lifts.decides(0, 0), 9);
        due.is("its cost", lifts.ownCost(0, 0), 4);
        due.is("car 1 holds it for", lifts.ownCost(1, 0), 5);
        lifts.run(1);
        due.is("car 0 will not", lifts.decides(0, 0), -1);
        due.is("no cost is left", lifts.ownCost(0, 0), -1);
        due.promise(22, "a claim with the cost with which it holds it");
        // Both hold the call for 9 and 8, no claim was heard; announced again at 6, they would cost less now.
        BusLifts both = Due.behind(2, "floors 20;car 0 2;car 17 2;call 0 9 16;");
        both.setJammed(0, true);
        both.run(1);
        both.setJammed(0, false);
        both.run(1);
        both.setJammed(0, true);
        both.setJammed(1, true);
        both.run(1);
        both.setJammed(0, false);
        both.setJammed(1, false);
        both.run(3);
        due.is("both still hold it", both.doubles(), 1);
        due.is("and claim it once more", both.messages(2, false), 4);
        both.run(1);
        due.is("9 does not come before 8", both.holds(1, 0), true);
        due.is("8 comes before 9", both.holds(0, 0), false);
        due.promise(22, "if the claim comes before its own cost, it holds it no more");
        claimMeets("the claim is dearer, of a greater number", "floors 10;car 0 2;car 9 2;call 0 4 8;", true, false);
        claimMeets("the claim is cheaper, of a greater number", "floors 10;car 9 2;car 0 2;call 0 4 8;", false, true);
        claimMeets("a tie", "floors 9;car 0 2;car 8 2;call 0 4 8;", true, false);
    }

    /** Both cars decide for the call without having heard of one another, then hear both claims. */
    private static void claimMeets(String what, String text, boolean keeps0, boolean keeps1) {
        BusLifts lifts = Due.behind(2, text);
        lifts.setJammed(0, true);
        lifts.run(1);
        lifts.setJammed(0, false);
        lifts.run(1);
        due.is(what + ": both hold it", lifts.doubles(), 1);
        lifts.run(1);
        due.is(what + ", car 0", lifts.holds(0, 0), keeps0);
        due.is(what + ", car 1", lifts.holds(1, 0), keeps1);
        due.is(what + ": the station minds the last one", lifts.call(0, 8), 1);
    }

    private static void replacedBids() {
        due.promise(22, "a bid in place of an earlier one");
        // Car 1 carries call 0 from 9 to 0 and is at 3 when call 1 is made, at 0 when it is announced again.
        BusLifts lifts = Due.behind(13, "floors 10;patience 3;car 0 2;car 9 2;call 0 9 0;call 10 2 5;");
        due.is("the bid of the first round", lifts.noted(0, 1, 1), 1 + 2);
        due.is("the bid of car 0", lifts.noted(1, 1, 0), 2);
        for (int car = 0; car < 2; car++) {
            lifts.setStopped(car, true);
            lifts.setStopped(car, false);
        }
        lifts.run(1);
        due.is("announced again", lifts.call(1, 10), 13);
        lifts.setJammed(0, true);
        lifts.run(1);
        lifts.setJammed(0, false);
        due.is("it stays noted", lifts.noted(0, 1, 1), 1 + 2);
        due.is("car 1 forgot all bids", lifts.noted(1, 1, 0), -1);
        lifts.run(1);
        due.is("the bid of the second round", lifts.noted(0, 1, 1), 2 + 2);
    }

    private static void stationMinds() {
        due.promise(22, "the station hears bids and reports, but does not mind them");
        due.is("a bid", Due.behind(3, ONE).call(0, 8), -1);
        BusLifts only = Due.behind(4, ONE);
        only.setJammed(0, true);
        only.run(1);
        only.setJammed(0, false);
        only.run(2);
        due.is("aboard", only.call(0, 5), 6);
        due.is("no claim was heard", only.call(0, 8), -1);
        only.run(1);
        due.is("a report is no claim", only.call(0, 8), -1);
        due.is("it was not lost", only.messages(3, true), 0);
    }

    private static void patience() {
        due.promise(22, "announced again if it was announced at least patience ticks ago");
        for (int patience : new int[] {3, 4, 6, 49, 50}) {
            BusLifts lifts = Due.loaded("floors 9;car 0 1;patience " + patience + ";call 2 4 8;");
            lifts.setStopped(0, true);
            lifts.run(2 + patience);
            due.is("rounds one tick before", lifts.call(0, 7), 1);
            due.is("announced at", lifts.call(0, 10), 2);
            lifts.run(1);
            due.is("rounds then", lifts.call(0, 7), 2);
            due.is("announced at", lifts.call(0, 10), 2 + patience);
            lifts.run(patience - 1);
            due.is("rounds one tick before the third", lifts.call(0, 7), 2);
            lifts.run(1);
            due.is("the third", lifts.call(0, 7), 3);
        }
        due.promise(22, "the station goes through the waiting calls");
        due.is("a coming one is not announced", Due.behind(60, "floors 9;car 0 1;patience 3;call 60 4 8;").call(0, 7), 0);
        due.is("one aboard is not", Due.behind(30, "floors 30;car 3 2;call 0 3 29;").call(0, 7), 1);
        due.is("one done is not", Due.behind(99, ONE).messages(0, false), 1);
    }

    private static void runningOutClaims() {
        due.promise(22, "one that is claimed since at least 10 * patience ticks is claimed no more");
        for (int patience : new int[] {4, 6, 50}) {
            BusLifts lifts = Due.behind(4, "floors 9;car 0 1;patience " + patience + ";call 0 5 2;");
            lifts.setStopped(0, true);
            for (int left = 10 * patience; left > 0; left -= 20) {
                lifts.run(20);
            }
            due.is("one tick before", lifts.call(0, 8), 0);
            due.is("rounds", lifts.call(0, 7), 1);
            due.is("left", lifts.claimLeft(0), 0);
            lifts.run(1);
            due.is("then", lifts.call(0, 8), -1);
            due.promise(22, "one that is not claimed, also since just now, is announced again");
            due.is("rounds then", lifts.call(0, 7), 2);
            due.is("announced in the same tick", lifts.call(0, 10), 4 + 10 * patience);
        }
        due.promise(9, "the car by which it is claimed, also when it is aboard or done");
        due.is("aboard, as long as it may be", Due.behind(95, "floors 30;patience 4;door 5;car 3 2;car 0 1;call 0 3 29;").call(0, 8), 0);
        due.is("done", Due.behind(400, ONE).call(0, 8), 0);
    }

    private static void deciding() {
        due.promise(22, "will decide at t + 2");
        BusLifts lifts = Due.behind(3, ONE);
        due.is("not before", lifts.holds(0, 0), false);
        lifts.run(1);
        due.is("then", lifts.holds(0, 0), true);
        due.is("not again", lifts.decides(0, 0), -1);
        due.promise(22, "a stopped car does not decide, then or later");
        BusLifts stopped = Due.behind(3, ONE);
        stopped.setStopped(0, true);
        stopped.run(1);
        due.is("then", stopped.holds(0, 0), false);
        stopped.setStopped(0, false);
        stopped.run(2);
        due.is("later", stopped.holds(0, 0), false);
        due.is("before the call is announced again", stopped.call(0, 7), 1);
        stopped.run(4);
        due.is("announced at 6, heard at 7, decided at 9", stopped.holds(0, 0), true);
        due.promise(22, "if no bid that the car has noted comes before its own");
        BusLifts noted = Due.behind(3, TWO);
        due.is("a better bid", noted.noted(1, 0, 0), 3);
        noted.run(1);
        due.is("is not overbid", noted.holds(1, 0), false);
        due.is("it will not decide again", noted.decides(1, 0), -1);
        BusLifts equal = Due.behind(4, "floors 9;car 0 2;car 8 2;call 0 4 8;");
        due.is("an equal one of a greater number", equal.holds(0, 0), true);
        due.is("an equal one of a smaller number", equal.holds(1, 0), false);
    }

    private static void doors() {
        due.promise(22, "if the door is above 0, it becomes 1 less, and that is all");
        for (int door = 0; door <= 5; door++) {
            BusLifts lifts = Due.behind(4, "floors 10;car 0 2;door " + door + ";call 0 0 9;");
            for (int left = door; left >= 0; left--) {
                due.is("door of " + door, lifts.car(0, 2), left);
                due.is("floor with door " + door, lifts.car(0, 0), 0);
                lifts.run(1);
            }
            due.is("then it goes, with door " + door, lifts.car(0, 0), 1);
            due.is("the door stays at 0", lifts.car(0, 2), 0);
        }
        due.promise(22, "the door becomes the setting door");
        BusLifts set = Due.behind(3, "floors 10;car 0 2;door 5;call 0 0 9;");
        set.set(3, 2);
        set.run(1);
        due.is("as it is at the stop", set.car(0, 2), 2);
        set.set(3, 4);
        due.is("not as it becomes later", set.car(0, 2), 2);
        due.promise(22, "the cars act if they are not stopped");
        BusLifts stopped = Due.behind(4, "floors 10;car 0 2;door 5;call 0 0 9;");
        stopped.setStopped(0, true);
        stopped.run(9);
        due.is("a stopped one keeps its door", stopped.car(0, 2), 5);
    }

    private static void capacity() {
        due.promise(22, "one that waits comes aboard if there is room");
        for (int capacity = 1; capacity <= 8; capacity++) {
            StringBuilder text = new StringBuilder("floors 10;car 0 " + capacity + ";");
            for (int call = 0; call <= capacity; call++) {
                text.append("call 0 0 9;");
            }
            BusLifts lifts = Due.behind(4, text.toString());
            due.is("aboard of " + capacity, lifts.car(0, 4), capacity);
            due.is("by number", lifts.riders(0), (1 << capacity) - 1);
            due.is("one is left", lifts.held(0, 0), capacity);
            due.is("it waits", lifts.call(capacity, 3), 1);
            due.promise(22, "or one that waits while fewer are aboard than its capacity");
            lifts.run(2);
            due.is("a full car makes no second stop", lifts.car(0, 8), 1);
            due.is("it goes", lifts.car(0, 0), 1);
            BusLifts room = Due.behind(4, text.toString().replace("car 0 " + capacity, "car 0 8"));
            due.is("nobody is left with room for all", room.car(0, 3), capacity == 8 ? 1 : 0);
        }
        due.promise(22, "or one that waits while someone gets off");
        BusLifts change = Due.behind(11, "floors 10;car 0 1;call 0 0 5;call 2 5 7;call 2 5 8;");
        due.is("off at 10", change.call(0, 6), 10);
        due.is("the smaller number in at 10", change.call(1, 5), 10);
        due.is("the greater waits", change.call(2, 3), 1);
        due.is("and is held", change.held(0, 0), 2);
        due.is("one stop for both", change.car(0, 8), 2);
        due.is("no stop for nobody", change.car(0, 9), 0);
        due.promise(22, "a full car at the floor of a waiting call goes by");
        BusLifts by = Due.behind(8, "floors 10;car 0 1;call 0 0 5;call 0 2 3;");
        due.is("at 3", by.car(0, 0), 3);
        due.is("stops", by.car(0, 8), 1);
    }

    private static void gettingOff() {
        due.promise(22, "all who want to get off do so, at t");
        BusLifts lifts = Due.behind(10, "floors 10;car 0 8;call 0 0 5;call 0 0 5;call 0 0 9;call 0 0 5;");
        due.is("four aboard at 5", lifts.car(0, 4) + 10 * lifts.car(0, 0), 54);
        due.is("three are done in the tick", lifts.run(1), 3);
        due.is("one stays", lifts.riders(0), 4);
        for (int call : new int[] {0, 1, 3}) {
            due.is("done at 10", lifts.call(call, 6), 10);
            due.is("the car is still told", lifts.call(call, 4), 0);
        }
        due.is("not done", lifts.call(2, 6), -1);
        due.promise(22, "the lowest and the highest floor");
        due.is("from 0 to 29", Due.behind(35, "floors 30;car 0 1;call 0 0 29;").call(0, 6), 34);
        due.is("from 29 to 0", Due.behind(35, "floors 30;car 29 1;call 0 29 0;").call(0, 6), 34);
    }

    private static void nearest() {
        due.promise(22, "towards the nearest floor, on a tie the lower one");
        String[] ties = {"call 0 5 7;call 0 3 0;", "call 0 5 3;call 0 7 9;", "call 0 5 7;call 0 5 3;"};
        for (String tie : ties) {
            BusLifts lifts = Due.behind(5, "floors 10;car 5 3;" + tie);
            due.is("goal with " + tie, lifts.goal(0), 3);
            lifts.run(1);
            due.is("floor with " + tie, lifts.car(0, 0), 4);
        }
        BusLifts upper = Due.behind(6, "floors 10;car 5 2;call 0 5 7;call 0 2 0;");
        due.is("the nearer upper one", upper.car(0, 0), 6);
        due.promise(22, "if fewer are aboard than its capacity, those of the calls that it holds");
        BusLifts full = Due.behind(5, "floors 10;car 5 1;call 0 5 7;call 0 4 0;");
        due.is("not of a full one", full.goal(0), 7);
        full.run(1);
        due.is("it goes up", full.car(0, 0), 6);
        BusLifts room = Due.behind(6, "floors 10;car 5 2;call 0 5 7;call 0 4 0;");
        due.is("with room it goes down", room.car(0, 0), 4);
        due.promise(22, "without any it stays");
        BusLifts none = Due.behind(50, "floors 10;car 9 1;");
        due.is("at its floor", none.car(0, 0), 9);
        due.is("without going", none.car(0, 7) + none.car(0, 8), 0);
    }

    private static void nobody() {
        due.promise(22, "one that does not wait any more is held no more, which is a stop for nobody");
        BusLifts lifts = Due.behind(2, RACE);
        lifts.setJammed(1, true);
        lifts.run(6);
        due.is("car 1 at the floor holds it", lifts.holds(1, 0) ? lifts.car(1, 0) : -1, 4);
        due.is("taken at 7", lifts.call(0, 5), 7);
        due.is("no stop yet", lifts.car(1, 8), 0);
        lifts.run(1);
        due.is("held no more", lifts.holds(1, 0), false);
        due.is("a stop", lifts.car(1, 8), 1);
        due.is("for nobody", lifts.car(1, 9), 1);
        due.is("the door opens", lifts.car(1, 2), 1);
        lifts.run(50);
        due.is("only once", lifts.car(1, 9), 1);
        due.promise(22, "a stop for a call that does not wait any more, also of a full car");
        BusLifts full = Due.behind(2, "floors 9;car 4 1;car 0 1;call 0 4 8;call 0 0 8;");
        full.setJammed(1, true);
        full.run(7);
        due.is("a full car at 4", full.car(1, 0), 4);
        due.is("on its way to 8", full.goal(1), 8);
        due.is("it holds a call from there", full.holds(1, 0), true);
        full.run(1);
        due.is("it stops for nobody", full.car(1, 9), 1);
        due.is("at 4", full.car(1, 0), 4);
        due.is("nobody gets off", full.riders(1), 2);
        due.promise(22, "each such call counts");
        BusLifts three = Due.behind(2, "floors 10;car 0 3;car 9 3;call 0 4 8;call 0 4 8;call 0 4 8;");
        three.setJammed(1, true);
        three.run(7);
        due.is("three calls", three.car(1, 9), 3);
        due.is("one stop", three.car(1, 8), 1);
        due.is("of one cause", three.nobody(1), 3);
    }

    private static void cause(String what, BusLifts lifts, int cause) {
        for (int other = 1; other <= 4; other++) {
            due.is(what + ": cause " + other, lifts.nobody(other), other == cause ? 1 : 0);
        }
    }

    private static void causes() {
        due.promise(20, "1 if a report was ever lost for this car, whatever else was");
        BusLifts report = Due.behind(2, RACE);
        report.setJammed(1, true);
        report.run(7);
        due.is("a bid, a claim and a report", report.hasLost(1, 0, 1) && report.hasLost(1, 0, 2) && report.hasLost(1, 0, 3), true);
        cause("all are lost", report, 1);
        due.promise(20, "otherwise 2 if a claim was, whatever else was");
        BusLifts claim = Due.behind(2, "floors 9;car 0 2;car 8 2;call 0 4 8;");
        claim.setJammed(1, true);
        claim.run(6);
        due.is("a bid and a claim", claim.hasLost(1, 0, 1) && claim.hasLost(1, 0, 2) && !claim.hasLost(1, 0, 3), true);
        cause("a bid and a claim are lost", claim, 2);
        due.promise(20, "otherwise 4");
        // Stopped at 7, car 1 keeps its better claim until that of the station runs out; then car 0 goes, too.
        BusLifts other = Due.behind(5, "floors 10;patience 4;car 0 2;car 9 2;call 0 5 9;");
        other.setStopped(1, true);
        other.run(40);
        other.setJammed(1, true);
        other.run(1);
        other.setJammed(1, false);
        other.run(4);
        other.setStopped(1, false);
        other.run(3);
        due.is("an announcement alone", other.hasLost(1, 0, 0) && other.messages(-1, true) == 1, true);
        cause("an announcement is lost", other, 4);
        due.promise(20, "of this call");
        BusLifts another = Due.behind(5, "floors 10;patience 4;car 0 2;car 9 2;call 0 5 9;call 47 9 8;");
        another.setStopped(1, true);
        another.run(44);
        another.setJammed(1, true);
        another.run(1);
        another.setJammed(1, false);
        another.setStopped(1, false);
        another.run(3);
        due.is("a bid of another call", another.hasLost(1, 1, 1) && another.messages(-1, true) == 1, true);
        cause("another call", another, 4);
        due.promise(20, "for this car");
        BusLifts taker = Due.behind(4, "floors 10;patience 4;car 0 2;car 9 2;call 0 5 9;");
        taker.setJammed(0, true);
        taker.run(1);
        taker.setJammed(0, false);
        taker.setStopped(1, true);
        taker.run(45);
        taker.setStopped(1, false);
        taker.run(3);
        due.is("a claim for the other car", taker.hasLost(0, 0, 2) && taker.messages(-1, true) == 1, true);
        cause("another car", taker, 4);
    }

    private static void late() {
        due.promise(29, "a call is late if its wait is greater than the bound");
        for (int bound : new int[] {1, 5, 30, 499}) {
            BusLifts lifts = Due.loaded("floors 9;car 0 1;call 0 4 8;bound " + bound + ";");
            lifts.setStopped(0, true);
            lifts.run(bound);
            due.isReal("a wait of " + bound, lifts.lateShare(), 0.0);
            due.is("one tick on", lifts.lateIn(1), 1);
            lifts.run(1);
            due.isReal("one more", lifts.lateShare(), 1.0);
            lifts.set(4, bound + 1);
            due.isReal("with a greater bound", lifts.lateShare(), 0.0);
        }
    }

    private static void ticks() {
        due.promise(22, "ticks: 1 to 500");
        BusLifts lifts = Due.loaded(ONE);
        for (int ticks : new int[] {Integer.MIN_VALUE, -1, 0, 501, 1000, Integer.MAX_VALUE}) {
            due.isThrown(ticks + " ticks", IllegalArgumentException.class, () -> lifts.run(ticks));
        }
        due.is("no time passes", lifts.count(3), 0);
        due.is("no change", lifts.count(13), 0);
        due.is("the least", lifts.run(1), 0);
        due.is("time", lifts.count(3), 1);
        due.is("the most", lifts.run(500), 1);
        due.is("time", lifts.count(3), 501);
        due.promise(22, "the number of calls that are done in them");
        due.is("not those done before", lifts.run(500), 0);
        due.is("in the last tick", Due.loaded(ONE).run(12), 1);
        due.is("one tick short", Due.loaded(ONE).run(11), 0);
        due.is("without calls", new BusLifts().run(500), 0);
    }
}
