/** Promises 42, 47 to 52, 53 and 54: forecasts, and the output. */
public final class ForecastTest {
    private static final Due due = new Due();
    private static final Class<?> INDEX = IndexOutOfBoundsException.class;
    private static final Class<?> ARGUMENT = IllegalArgumentException.class;
    // Boards at 6, off at 11.
    private static final String ONE = "floors 10;car 0 2;call 0 3 6;";
    // Call 0 boards at 3, off at 10; call 1 boards at 17, off at 26.
    private static final String FULL = "floors 10;car 0 1;bound 10;call 0 0 5;call 0 0 7;";

    public static void main(String[] arguments) {
        late();
        aboard();
        done();
        nobody();
        noise();
        wouldWait();
        patience();
        nothingChanges();
        printing();
        due.end();
    }

    private static void late() {
        due.promise(42, "lateIn");
        BusLifts lifts = Due.loaded(FULL);
        due.is("a wait of 10", lifts.lateIn(10), 0);
        due.is("a wait of 11", lifts.lateIn(11), 1);
        due.is("at the end", lifts.lateIn(500), 1);
        lifts.set(4, 2);
        due.is("both", lifts.lateIn(3), 2);
        due.is("none made", Due.loaded("floors 9;car 0 1;bound 1;call 50 1 2;").lateIn(50), 0);
        due.isThrown("0", ARGUMENT, () -> lifts.lateIn(0));
        due.isThrown("501", ARGUMENT, () -> lifts.lateIn(501));
    }

    private static void aboard() {
        due.promise(47, "aboardIn");
        BusLifts lifts = Due.loaded(FULL);
        due.is("call 0", lifts.aboardIn(0, 500), 4);
        due.is("just so", lifts.aboardIn(0, 4), 4);
        due.is("too late", lifts.aboardIn(0, 3), -1);
        due.is("call 1", lifts.aboardIn(1, 18), 18);
        due.is("call 1, too late", lifts.aboardIn(1, 17), -1);
        lifts.run(4);
        due.is("aboard now", lifts.aboardIn(0, 1), 0);
        due.is("from now on", lifts.aboardIn(1, 20), 14);
        lifts.run(10);
        due.is("done now", lifts.aboardIn(0, 1), 0);
        due.isThrown("call 2", INDEX, () -> lifts.aboardIn(2, 0));
        due.isThrown("call -1", INDEX, () -> lifts.aboardIn(-1, 5));
        due.isThrown("0", ARGUMENT, () -> lifts.aboardIn(0, 0));
        due.isThrown("501", ARGUMENT, () -> lifts.aboardIn(0, 501));
    }

    private static void done() {
        due.promise(48, "doneIn");
        BusLifts lifts = Due.loaded(FULL);
        due.is("both", lifts.doneIn(500), 27);
        due.is("just so", lifts.doneIn(27), 27);
        due.is("too late", lifts.doneIn(26), -1);
        lifts.run(20);
        due.is("from now on", lifts.doneIn(500), 7);
        lifts.run(7);
        due.is("now", lifts.doneIn(1), 0);
        due.is("without calls", new BusLifts().doneIn(1), 0);
        due.is("coming ones are not done", Due.loaded("floors 2;car 0 1;call 600 0 1;").doneIn(500), -1);
        due.isThrown("0", ARGUMENT, () -> lifts.doneIn(0));
        due.isThrown("501", ARGUMENT, () -> lifts.doneIn(501));
    }

    private static void nobody() {
        due.promise(49, "nobodyIn");
        BusLifts lifts = Due.behind(2, "floors 10;car 0 2;car 9 2;call 0 4 8;");
        lifts.setJammed(1, true);
        due.is("at 8", lifts.nobodyIn(6), 0);
        due.is("at 9", lifts.nobodyIn(7), 1);
        lifts.run(7);
        due.is("those until now left aside", lifts.nobodyIn(100), 0);
        due.isThrown("0", ARGUMENT, () -> lifts.nobodyIn(0));
        due.isThrown("501", ARGUMENT, () -> lifts.nobodyIn(501));
    }

    private static void noise() {
        due.promise(50, "bestNoise");
        BusLifts lifts = Due.loaded(ONE);
        due.is("all but the highest do", lifts.bestNoise(12), 0);
        due.is("none does", lifts.bestNoise(11), -1);
        lifts.set(0, 90);
        due.is("in place of the setting", lifts.bestNoise(12), 0);
        lifts.set(0, 0);
        lifts.run(12);
        due.is("done now", lifts.bestNoise(1), 0);
        due.is("without calls", new BusLifts().bestNoise(1), 0);
        // Found by search, and the same by PlainLifts.
        String[] found = {"10;floors 9;car 2 2;call 5 1 3;call 3 8 1;seed 86;",
            "20;floors 9;car 7 1;call 3 1 8;call 4 8 3;seed 900;",
            "50;floors 9;car 4 2;call 5 4 2;call 4 6 0;seed 745;",
            "90;floors 9;car 0 1;call 5 0 8;call 0 8 5;seed 3175;"};
        for (String text : found) {
            due.is(text, Due.loaded(text.substring(3)).bestNoise(100), Integer.parseInt(text.substring(0, 2)));
        }
        due.isThrown("0", ARGUMENT, () -> lifts.bestNoise(0));
        due.isThrown("501", ARGUMENT, () -> lifts.bestNoise(501));
    }

    private static void wouldWait() {
        due.promise(51, "wouldWait");
        BusLifts lifts = Due.loaded(ONE);
        due.is("at the same floor", lifts.wouldWait(3, 9), 6);
        due.is("at the floor of the car", lifts.wouldWait(0, 9), 3);
        lifts.run(12);
        due.is("later on, at the floor of the car", lifts.wouldWait(6, 0), 3);
        lifts.setStopped(0, true);
        due.is("never", lifts.wouldWait(6, 0), -1);
        BusLifts full = new BusLifts();
        for (int call = 0; call < 24; call++) {
            full.makeCall(0, 1);
        }
        due.is("24 calls", full.wouldWait(0, 1), -1);
        due.isThrown("24 calls, the same", ARGUMENT, () -> full.wouldWait(1, 1));
        due.isThrown("from -1", ARGUMENT, () -> lifts.wouldWait(-1, 1));
        due.isThrown("from 10", ARGUMENT, () -> lifts.wouldWait(10, 1));
        due.isThrown("to -1", ARGUMENT, () -> lifts.wouldWait(1, -1));
        due.isThrown("to 10", ARGUMENT, () -> lifts.wouldWait(1, 10));
    }

    private static void patience() {
        due.promise(52, "bestPatience");
        BusLifts lifts = Due.loaded(ONE);
        due.is("all alike", lifts.bestPatience(500), 3);
        due.is("none made", Due.loaded("floors 9;car 0 1;call 900 1 2;").bestPatience(5), 3);
        due.is("without calls", new BusLifts().bestPatience(1), 3);
        // Found by search, and the same by PlainLifts.
        String[] found = {"04;floors 9;car 6 2;car 0 2;call 1 8 3;seed 296;noise 60;",
            "12;floors 9;car 7 1;call 5 0 1;call 3 5 3;call 2 1 4;seed 6030;noise 35;",
            "49;floors 30;car 4 1;call 36 3 26;call 4 28 20;call 30 1 6;call 55 12 10;seed 1279;noise 22;",
            "50;floors 30;car 24 2;call 16 8 23;call 39 21 23;call 13 16 27;call 21 2 23;seed 140;noise 9;"};
        for (String text : found) {
            int ticks = text.startsWith("floors 9", 3) ? 100 : 200;
            due.is(text, Due.loaded(text.substring(3)).bestPatience(ticks), Integer.parseInt(text.substring(0, 2)));
        }
        String text4 = found[0].substring(3);
        due.is("as long as it makes no difference", Due.loaded(text4).bestPatience(14), 3);
        due.is("from then on", Due.loaded(text4).bestPatience(15), 4);
        due.isThrown("0", ARGUMENT, () -> lifts.bestPatience(0));
        due.isThrown("501", ARGUMENT, () -> lifts.bestPatience(501));
    }

    private static void nothingChanges() {
        due.promise(42, "forecasts change nothing");
        BusLifts lifts = Due.behind(5, "floors 10;car 0 2;car 9 1;noise 20;call 0 4 8;call 0 7 2;call 30 1 2;");
        lifts.saveState();
        lifts.printCar(0);
        String before = Due.all(lifts);
        int output = lifts.outputByte(0);
        lifts.lateIn(100);
        lifts.aboardIn(0, 100);
        lifts.doneIn(100);
        lifts.nobodyIn(100);
        lifts.bestNoise(100);
        lifts.wouldWait(1, 2);
        lifts.bestPatience(100);
        due.isText("all", Due.all(lifts), before);
        due.is("changes", lifts.count(13), 1);
        due.is("the output", lifts.outputByte(0), output);
        due.is("the saved state", lifts.restoreState(), 5);
        due.isText("all restored", Due.all(lifts), before);
    }

    private static void printing() {
        due.promise(53, "printCar");
        BusLifts lifts = Due.behind(4, "floors 10;car 0 1;call 0 0 5;call 0 0 7;call 0 5 6;call 0 3 8;");
        due.is("bytes", lifts.printCar(0), 10);
        due.isText("someone aboard before a held call", Due.output(lifts), "O..-.+....");
        lifts.run(3);
        lifts.printCar(0);
        due.isText("a held call below", Due.output(lifts), "-.O-.+....");
        BusLifts two = Due.behind(4, "floors 10;car 0 2;car 9 2;call 0 3 6;call 0 7 1;");
        two.printCar(1);
        due.isText("car 1", Due.output(two), ".......-O.");
        two.printCar(0);
        due.isText("in place of it", Due.output(two), ".O.-......");
        due.isThrown("car 2", INDEX, () -> two.printCar(2));
        due.isThrown("car -1", INDEX, () -> two.printCar(-1));
        due.isText("no change then", Due.output(two), ".O.-......");
        due.is("the most floors", Due.loaded("floors 30;car 29 1;").printCar(0), 30);
        due.is("the least floors", new BusLifts().printCar(0), 2);

        due.promise(54, "outputByte");
        due.is("the first", two.outputByte(0), 46);
        due.is("the last", two.outputByte(9), 46);
        due.is("behind it", two.outputByte(10), -1);
        due.is("-1", two.outputByte(-1), -1);
        due.is("without output", new BusLifts().outputByte(0), -1);
        Due.load(two, "floors 3;car 2 1;");
        two.printCar(0);
        due.isText("a shorter one", Due.output(two), "..O");
        due.is("behind it", two.outputByte(3), -1);
        due.is("O", two.outputByte(2), 79);
    }
}
