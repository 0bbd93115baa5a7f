/** The boundary cases that the forecasts and the output name (promises 42 and 47 to 54). Times are worked out by hand. */
public final class EdgeForecastTest {
    private static final Due due = new Due();
    private static final Class<?> INDEX = IndexOutOfBoundsException.class;
    private static final Class<?> ARGUMENT = IllegalArgumentException.class;
    private static final int LEAST = Integer.MIN_VALUE;
    private static final int MOST = Integer.MAX_VALUE;

    // Boards at 6, off at 11.
    private static final String ONE = "floors 10;car 0 2;call 0 3 6;";
    // One place: call 0 boards at 3, off at 10; call 1 boards at 17, off at 26.
    private static final String FULL = "floors 10;car 0 1;bound 10;call 0 0 5;call 0 0 7;";
    private static final String BUSY = "floors 10;car 0 2;car 8 2;car 4 1;noise 45;seed 379;patience 4;"
        + "call 0 4 8;call 0 4 0;call 1 9 0;call 2 1 8;";

    public static void main(String[] arguments) {
        ticksOutOfRange();
        late();
        aboard();
        done();
        nobody();
        noise();
        wouldWait();
        fiveHundredTicks();
        patience();
        workedOutOnACopy();
        asTheTicksPass();
        shafts();
        bytes();
        due.end();
    }

    private static void ticksOutOfRange() {
        due.promise(42, "and on, if ticks is out of range");
        BusLifts lifts = Due.loaded(FULL);
        for (int bad : new int[] {LEAST, -500, -1, 0, 501, 502, MOST}) {
            due.isThrown("lateIn " + bad, ARGUMENT, () -> lifts.lateIn(bad));
            due.isThrown("aboardIn " + bad, ARGUMENT, () -> lifts.aboardIn(0, bad));
            due.isThrown("doneIn " + bad, ARGUMENT, () -> lifts.doneIn(bad));
            due.isThrown("nobodyIn " + bad, ARGUMENT, () -> lifts.nobodyIn(bad));
            due.isThrown("bestNoise " + bad, ARGUMENT, () -> lifts.bestNoise(bad));
            due.isThrown("bestPatience " + bad, ARGUMENT, () -> lifts.bestPatience(bad));
            due.promise(47, "the exception that is listed first");
            due.isThrown("aboardIn of no call, " + bad, INDEX, () -> lifts.aboardIn(2, bad));
        }
        due.promise(42, "and on, 1 and 500 ticks");
        due.is("lateIn 1", lifts.lateIn(1), 0);
        due.is("lateIn 500", lifts.lateIn(500), 1);
        due.is("aboardIn 1", lifts.aboardIn(0, 1), -1);
        due.is("aboardIn 500", lifts.aboardIn(0, 500), 4);
        due.is("doneIn 1", lifts.doneIn(1), -1);
        due.is("doneIn 500", lifts.doneIn(500), 27);
        due.is("nobodyIn 1", lifts.nobodyIn(1), 0);
        due.is("nobodyIn 500", lifts.nobodyIn(500), 0);
        due.is("bestNoise 1", lifts.bestNoise(1), -1);
        due.is("bestNoise 500", lifts.bestNoise(500), 0);
        due.is("bestPatience 1", lifts.bestPatience(1), 3);
        due.is("bestPatience 500", lifts.bestPatience(500), 3);
        due.promise(47, "if there is no such call");
        for (int bad : new int[] {LEAST, -1, 2, 24, MOST}) {
            due.isThrown("aboardIn of call " + bad, INDEX, () -> lifts.aboardIn(bad, 9));
        }
        due.isThrown("aboardIn without calls", INDEX, () -> new BusLifts().aboardIn(0, 9));
    }

    private static void late() {
        due.promise(42, "the calls that are made then are late: a wait greater than the bound");
        BusLifts lifts = Due.loaded("floors 9;car 0 1;bound 4;call 3 8 0;call 20 8 0;");
        due.is("a wait of 4", lifts.lateIn(7), 0);
        due.is("a wait of 5", lifts.lateIn(8), 1);
        due.is("a second call, not made", lifts.lateIn(20), 1);
        due.is("its wait of 4", lifts.lateIn(24), 1);
        due.is("its wait of 5", lifts.lateIn(25), 2);
        due.is("without calls", new BusLifts().lateIn(500), 0);
    }

    private static void aboard() {
        due.promise(47, "0 if it is so now; -1 if it is not so within these ticks");
        int[] wanted = {4, 3, 2, 1, 0, 0};
        for (int time = 0; time < wanted.length; time++) {
            BusLifts lifts = time == 0 ? Due.loaded(FULL) : Due.behind(time, FULL);
            due.is("at " + time, lifts.aboardIn(0, 500), wanted[time]);
            int ticks = Math.max(1, wanted[time]);
            due.is("within just as many, at " + time, lifts.aboardIn(0, ticks), wanted[time]);
            if (ticks > 1) {
                due.is("within one less, at " + time, lifts.aboardIn(0, ticks - 1), -1);
            }
        }
        due.is("done now", Due.behind(11, FULL).aboardIn(0, 1), 0);
        due.is("a coming call", Due.loaded("floors 9;car 4 1;call 96 4 0;").aboardIn(0, 100), 100);
        due.is("a coming call, too late", Due.loaded("floors 9;car 4 1;call 97 4 0;").aboardIn(0, 100), -1);
        due.is("in 500 ticks", Due.loaded("floors 9;car 4 1;call 496 4 0;").aboardIn(0, 500), 500);
        due.is("in 501 ticks", Due.loaded("floors 9;car 4 1;call 497 4 0;").aboardIn(0, 500), -1);
    }

    private static void done() {
        due.promise(48, "0 if it is so now; -1 if it is not so within these ticks");
        int[] wanted = {27, 26, 3, 2, 1, 0, 0};
        int[] times = {0, 1, 24, 25, 26, 27, 40};
        for (int at = 0; at < times.length; at++) {
            BusLifts lifts = times[at] == 0 ? Due.loaded(FULL) : Due.behind(times[at], FULL);
            due.is("at " + times[at], lifts.doneIn(500), wanted[at]);
            due.is("within just as many", lifts.doneIn(Math.max(1, wanted[at])), wanted[at]);
            if (wanted[at] > 1) {
                due.is("within one less", lifts.doneIn(wanted[at] - 1), -1);
            }
        }
        due.is("without calls", new BusLifts().doneIn(1), 0);
        due.is("a coming call", Due.loaded("floors 2;car 0 1;call 999 0 1;").doneIn(500), -1);
        due.is("in 500 ticks", Due.loaded("floors 2;car 0 1;call 493 0 1;").doneIn(500), 500);
        due.is("in 501 ticks", Due.loaded("floors 2;car 0 1;call 494 0 1;").doneIn(500), -1);
    }

    private static void nobody() {
        due.promise(49, "those until now left aside");
        BusLifts lifts = Due.behind(2, "floors 10;car 0 3;car 9 3;call 0 4 8;call 0 4 8;call 0 4 8;");
        lifts.setJammed(1, true);
        due.is("at 8", lifts.nobodyIn(6), 0);
        due.is("at 9, each call", lifts.nobodyIn(7), 3);
        lifts.run(6);
        due.is("one tick before", lifts.nobodyIn(1), 3);
        lifts.run(1);
        due.is("those until now", lifts.nobodyIn(500), 0);
        due.is("which are three", lifts.nobody(1), 3);
    }

    private static int noiseByHand(String text, int ticks) {
        int best = -1;
        int least = MOST;
        for (int noise = 0; noise <= 90; noise += 10) {
            BusLifts lifts = Due.loaded(text);
            lifts.set(0, noise);
            int needed = lifts.doneIn(ticks);
            if (needed >= 0 && needed < least) {
                best = noise;
                least = needed;
            }
        }
        return best;
    }

    private static void noise() {
        due.promise(50, "the smallest one on a tie; -1 if with none of them");
        BusLifts lifts = Due.loaded(ONE);
        due.is("just in time", lifts.bestNoise(12), 0);
        due.is("one tick short", lifts.bestNoise(11), -1);
        due.is("without calls: all alike", new BusLifts().bestNoise(1), 0);
        due.is("done now: all alike", Due.behind(12, ONE).bestNoise(1), 0);
        lifts.setStopped(0, true);
        due.is("never", lifts.bestNoise(500), -1);
        due.promise(50, "the one with which doneIn is least, those with -1 left aside");
        String[] texts = {"floors 9;car 2 2;call 5 1 3;call 3 8 1;seed 86;", "floors 9;car 7 1;call 3 1 8;call 4 8 3;seed 900;",
            "floors 9;car 4 2;call 5 4 2;call 4 6 0;seed 745;", "floors 9;car 0 1;call 5 0 8;call 0 8 5;seed 3175;", BUSY};
        for (String text : texts) {
            for (int ticks : new int[] {1, 15, 20, 25, 30, 40, 60, 100, 500}) {
                due.is(ticks + " ticks with " + text, Due.loaded(text).bestNoise(ticks), noiseByHand(text, ticks));
            }
        }
    }

    private static void wouldWait() {
        due.promise(51, "if there is no such floor, or both are the same");
        BusLifts lifts = Due.loaded(ONE);
        BusLifts full = Due.loaded("floors 10;car 0 1;" + "call 900 0 1;".repeat(24));
        for (BusLifts asked : new BusLifts[] {lifts, full}) {
            for (int bad : new int[] {LEAST, -1, 10, 30, MOST}) {
                due.isThrown("from " + bad, ARGUMENT, () -> asked.wouldWait(bad, 1));
                due.isThrown("to " + bad, ARGUMENT, () -> asked.wouldWait(1, bad));
                due.isThrown("both " + bad, ARGUMENT, () -> asked.wouldWait(bad, bad));
            }
            for (int floor = 0; floor < 10; floor++) {
                int same = floor;
                due.isThrown("the same " + floor, ARGUMENT, () -> asked.wouldWait(same, same));
            }
        }
        due.promise(51, "-1 if there are 24 calls");
        due.is("24", full.wouldWait(0, 1), -1);
        BusLifts almost = Due.loaded("floors 10;car 0 1;" + "call 900 0 1;".repeat(23));
        due.is("23", almost.wouldWait(0, 1), 3);
        due.is("23 are left", almost.count(2), 23);
        due.promise(51, "the wait, made in the next tick");
        due.is("at once", Due.loaded("floors 10;car 4 1;").wouldWait(4, 0), 3);
        due.is("nine floors", Due.loaded("floors 10;car 0 1;").wouldWait(9, 0), 12);
        due.is("later on", Due.behind(77, "floors 10;car 9 1;").wouldWait(0, 9), 12);
    }

    private static void fiveHundredTicks() {
        due.promise(51, "-1 if the person is not aboard within 500 ticks");
        // The car comes to floor 0 at 23, boards there every 68 ticks: the eighth at 23 + 7 * 68 = 499.
        String queue = ";door 4;" + "call 0 0 29;".repeat(7);
        due.is("in the 500th tick", Due.loaded("floors 30;car 20 1" + queue).wouldWait(0, 1), 499);
        due.is("in the 501st tick", Due.loaded("floors 30;car 21 1" + queue).wouldWait(0, 1), -1);
        BusLifts stopped = Due.loaded("floors 10;car 0 1;");
        stopped.setStopped(0, true);
        due.is("never", stopped.wouldWait(0, 1), -1);
    }

    private static int patienceByHand(String text, int ticks) {
        int best = -1;
        int least = MOST;
        for (int patience = 3; patience <= 50; patience++) {
            BusLifts lifts = Due.loaded(text);
            lifts.set(1, patience);
            lifts.run(ticks);
            if (lifts.longestWait() < least) {
                best = patience;
                least = lifts.longestWait();
            }
        }
        return best;
    }

    private static void patience() {
        due.promise(52, "the smallest one on a tie");
        due.is("without calls", new BusLifts().bestPatience(500), 3);
        due.is("none made", Due.loaded("floors 9;car 0 1;call 900 0 1;").bestPatience(500), 3);
        due.is("all alike", Due.loaded(ONE).bestPatience(500), 3);
        due.is("done now", Due.behind(12, ONE).bestPatience(500), 3);
        BusLifts set = Due.loaded(ONE);
        set.set(1, 50);
        due.is("whatever is set", set.bestPatience(500), 3);
        due.promise(52, "each patience from 3 to 50");
        String[] texts = {"floors 9;car 6 2;car 0 2;call 1 8 3;seed 296;noise 60;",
            "floors 9;car 7 1;call 5 0 1;call 3 5 3;call 2 1 4;seed 6030;noise 35;",
            "floors 30;car 4 1;call 36 3 26;call 4 28 20;call 30 1 6;call 55 12 10;seed 1279;noise 22;",
            "floors 30;car 24 2;call 16 8 23;call 39 21 23;call 13 16 27;call 21 2 23;seed 140;noise 9;", BUSY};
        for (String text : texts) {
            for (int ticks : new int[] {1, 15, 40, 100, 200, 500}) {
                due.is(ticks + " ticks with " + text, Due.loaded(text).bestPatience(ticks), patienceByHand(text, ticks));
            }
        }
        due.is("the most patience", Due.loaded(texts[3]).bestPatience(200), 50);
    }

    private static void workedOutOnACopy() {
        due.promise(42, "what is asked about the future is worked out on a copy");
        for (int ticks = 1; ticks <= 30; ticks++) {
            BusLifts lifts = Due.behind(ticks, BUSY);
            lifts.saveState();
            lifts.printCar(1);
            int output = lifts.outputByte(8);
            lifts.lateIn(40);
            lifts.aboardIn(3, 40);
            lifts.doneIn(40);
            lifts.nobodyIn(40);
            lifts.bestNoise(40);
            lifts.wouldWait(1, 2);
            lifts.bestPatience(40);
            due.isText("all at " + ticks, Due.all(lifts), Due.all(Due.behind(ticks, BUSY)));
            due.is("changes", lifts.count(13), 1);
            due.is("the output", lifts.outputByte(8), output);
            due.is("the saved state", lifts.restoreState(), ticks);
            lifts.run(20);
            due.isText("all later", Due.all(lifts), Due.all(Due.behind(ticks + 20, BUSY)));
        }
    }

    private static void asTheTicksPass() {
        due.promise(47, "what is forecast is what comes");
        // Car 1 is stopped with the call; its claim of 4 runs out at 44, car 0 takes the call at 47 and boards at 52.
        BusLifts claim = Due.behind(5, "floors 10;patience 4;car 0 2;car 9 2;call 0 5 9;");
        claim.setStopped(1, true);
        claim.run(35);
        due.is("when the claim runs out", claim.aboardIn(0, 100), 53 - 40);
        due.promise(49, "what is forecast is what comes");
        // Both hold the call; with the claims car 1 gives it up in time.
        BusLifts both = Due.behind(2, "floors 9;car 0 2;car 8 2;call 0 4 8;");
        both.setJammed(0, true);
        both.run(1);
        both.setJammed(0, false);
        both.run(1);
        due.is("both hold it", both.doubles(), 1);
        due.is("the costs with which they hold it", both.nobodyIn(20), 0);
        for (int ticks = 1; ticks <= 40; ticks++) {
            BusLifts lifts = Due.behind(7, BUSY);
            BusLifts later = Due.behind(7 + ticks, BUSY);
            due.promise(42, "what is forecast is what comes");
            due.isReal("late in " + ticks, (float) lifts.lateIn(ticks) / (float) later.count(2), later.lateShare());
            due.promise(49, "what is forecast is what comes");
            int before = lifts.car(0, 9) + lifts.car(1, 9) + lifts.car(2, 9);
            due.is("for nobody in " + ticks, lifts.nobodyIn(ticks), later.car(0, 9) + later.car(1, 9) + later.car(2, 9) - before);
            due.promise(47, "what is forecast is what comes");
            for (int call = 0; call < 4; call++) {
                int at = later.call(call, 5);
                due.is("call " + call + " in " + ticks, lifts.aboardIn(call, ticks), at < 0 ? -1 : Math.max(0, at + 1 - 7));
            }
        }
    }

    private static void shaft(String what, BusLifts lifts, int car, String wanted) {
        due.is("bytes, " + what, lifts.printCar(car), wanted.length());
        due.isText(what, Due.output(lifts), wanted);
    }

    private static void shafts() {
        due.promise(53, "for each floor from 0 on one byte");
        shaft("the fewest floors", new BusLifts(), 0, "O.");
        shaft("the highest floor", Due.loaded("floors 2;car 1 1;"), 0, ".O");
        shaft("the most floors", Due.loaded("floors 30;car 29 1;"), 0, ".".repeat(29) + "O");
        shaft("the last of four cars", Due.loaded("floors 4;car 0 1;car 1 1;car 2 1;car 3 1;"), 3, "...O");
        due.promise(53, "an O, otherwise a +, otherwise a -, otherwise a point");
        String text = "floors 9;car 0 1;call 0 0 5;call 0 5 6;call 0 0 8;call 0 8 7;";
        shaft("before it holds a call", Due.behind(3, text), 0, "O........");
        shaft("an O before a -, a + before a -", Due.behind(4, text), 0, "O....+..-");
        shaft("a - where it was", Due.behind(6, text), 0, "-O...+..-");
        shaft("an O before a + and a -", Due.behind(10, text), 0, "-....O..-");
        shaft("to and from the lowest floor", Due.behind(7, "floors 3;car 2 1;call 0 2 0;call 0 0 1;"), 0, "O..");
        shaft("to the lowest floor", Due.behind(5, "floors 3;car 2 1;call 0 2 0;call 0 0 1;"), 0, "+.O");
        due.promise(53, "if there is no such car");
        BusLifts lifts = Due.loaded("floors 3;car 1 1;car 2 1;");
        lifts.printCar(1);
        for (int bad : new int[] {LEAST, -1, 2, 4, MOST}) {
            due.isThrown("car " + bad, INDEX, () -> lifts.printCar(bad));
        }
        due.isText("the output stays", Due.output(lifts), "..O");
        due.promise(53, "in place of what it had");
        shaft("another car", lifts, 0, ".O.");
        Due.load(lifts, "floors 30;car 0 1;");
        shaft("longer", lifts, 0, "O" + ".".repeat(29));
        Due.load(lifts, "floors 2;car 1 1;");
        shaft("shorter", lifts, 0, ".O");
        due.promise(53, "the output does not belong to what is undone or saved");
        lifts.makeCall(0, 1);
        lifts.saveState();
        lifts.run(4);
        shaft("at 0", lifts, 0, "O.");
        lifts.undo();
        due.isText("behind undo", Due.output(lifts), "O.");
        lifts.restoreState();
        due.isText("behind restoreState", Due.output(lifts), "O.");
    }

    private static void bytes() {
        due.promise(54, "-1 if there is no such byte");
        BusLifts none = new BusLifts();
        BusLifts two = new BusLifts();
        two.printCar(0);
        BusLifts most = Due.loaded("floors 30;car 29 1;");
        most.printCar(0);
        for (int bad : new int[] {LEAST, -2, -1, 30, 31, 700, MOST}) {
            due.is(bad + " of none", none.outputByte(bad), -1);
            due.is(bad + " of 2", two.outputByte(bad), -1);
            due.is(bad + " of 30", most.outputByte(bad), -1);
        }
        due.is("0 of none", none.outputByte(0), -1);
        due.is("0 of 2", two.outputByte(0), 79);
        due.is("1 of 2", two.outputByte(1), 46);
        due.is("2 of 2", two.outputByte(2), -1);
        due.is("0 of 30", most.outputByte(0), 46);
        due.is("29 of 30", most.outputByte(29), 79);
    }
}
