/** Promises 1 to 6: a new object, the input buffer, the setup text and its errors. */
public final class SetupTest {
    private static final Due due = new Due();

    public static void main(String[] arguments) {
        newObject();
        appending();
        truncating();
        loading();
        loadReplaces();
        syntaxErrors();
        rangeErrors();
        misplacedErrors();
        errorKeeps();
        leftovers();
        due.end();
    }

    private static void newObject() {
        due.promise(1, "BusLifts");
        BusLifts lifts = new BusLifts();
        due.isText("a new object", Due.all(lifts), Due.all(Due.loaded("floors 2;car 0 1;")));
        int[] counts = {2, 1, 0, 0, 0, 6, 2, 1, 30, 1, 0, 0, 0, 0};
        for (int what = 0; what < counts.length; what++) {
            due.is("count " + what, lifts.count(what), counts[what]);
        }
        due.is("capacity", lifts.car(0, 1), 1);
        due.is("length of the buffer", lifts.truncateInput(1), false);
        due.is("error", lifts.errorCode(), BusLifts.NO_ERROR);
        due.is("offset", lifts.errorOffset(), -1);
        due.is("output", lifts.outputByte(0), -1);
        due.is("undo", lifts.undo(), -1);
        due.isThrown("restoreState", IllegalStateException.class, () -> lifts.restoreState());
    }

    private static void appending() {
        due.promise(2, "appendInput");
        BusLifts lifts = new BusLifts();
        for (int part = 1; part <= 35; part++) {
            due.is("part " + part, lifts.appendInput(0x20202020, 0x0a0a0a0a, 0x20202020, 0x0a200a20, 0x20202020), 20 * part);
        }
        due.is("a part too many", lifts.appendInput(1, 2, 3, 4, 5), -1);
        due.is("still 700", lifts.truncateInput(700), true);
        lifts.truncateInput(681);
        due.is("701 bytes", lifts.appendInput(1, 2, 3, 4, 5), -1);
        lifts.truncateInput(680);
        due.is("700 bytes again", lifts.appendInput(1, 2, 3, 4, 5), 700);
        lifts.truncateInput(0);
        // "floo" "rs 5" ";car" " 3 2" ";   "
        lifts.appendInput(0x666c6f6f, 0x72732035, 0x3b636172, 0x20332032, 0x3b202020);
        due.is("the bytes load", lifts.loadLifts(), 1);
        due.is("floors", lifts.count(0), 5);
        due.is("floor", lifts.car(0, 0), 3);
        due.is("capacity", lifts.car(0, 1), 2);
        lifts.appendInput(0x666c6f6f, 0x72732035, 0x3b636172, 0x20332032, 0x3b2020ff);
        due.is("a byte above 127", lifts.loadLifts(), -1);
        due.is("its offset", lifts.errorOffset(), 19);
    }

    private static void truncating() {
        due.promise(3, "truncateInput");
        BusLifts lifts = new BusLifts();
        due.is("0 of 0", lifts.truncateInput(0), true);
        due.is("1 of 0", lifts.truncateInput(1), false);
        lifts.appendInput(0, 0, 0, 0, 0);
        due.is("21 of 20", lifts.truncateInput(21), false);
        due.is("-1 of 20", lifts.truncateInput(-1), false);
        due.is("no change", lifts.truncateInput(20), true);
        due.is("7 of 20", lifts.truncateInput(7), true);
        due.is("8 of 7", lifts.truncateInput(8), false);
        due.is("length behind it", lifts.appendInput(0, 0, 0, 0, 0), 27);
    }

    private static void loading() {
        due.promise(4, "loadLifts");
        BusLifts lifts = new BusLifts();
        String text = "\n floors 30 ;car 29 8;car0 1;\ncar 0001 0007;car 4 4 ; call 999 0 29;call0 5 4;"
            + "noise 90;seed 9999;patience 50;weight 20;door 5;bound 999; \n";
        due.is("cars", Due.load(lifts, text), 4);
        due.is("no error", lifts.errorCode(), 0);
        due.is("the buffer is empty", lifts.truncateInput(1), false);
        int[] counts = {30, 4, 2, 0, 90, 50, 20, 5, 999, 9999, 0, 0, 0, 0};
        for (int what = 0; what < counts.length; what++) {
            due.is("count " + what, lifts.count(what), counts[what]);
        }
        int[] floors = {29, 0, 1, 4};
        int[] capacities = {8, 1, 7, 4};
        for (int car = 0; car < 4; car++) {
            due.is("floor of " + car, lifts.car(car, 0), floors[car]);
            due.is("capacity of " + car, lifts.car(car, 1), capacities[car]);
            for (int what = 2; what <= 9; what++) {
                due.is("car " + car + ", " + what, lifts.car(car, what), 0);
            }
        }
        due.is("from", lifts.call(0, 0), 0);
        due.is("to", lifts.call(0, 1), 29);
        due.is("time", lifts.call(0, 2), 999);
        due.is("from", lifts.call(1, 0), 5);
        due.is("least", Due.load(lifts, "floors 2;car 0 1;noise 0;seed 0;patience 3;weight 0;door 0;bound 1;"), 1);
        due.is("seed", lifts.count(9), 0);
        due.is("a failed load", Due.load(lifts, "floors 2;"), -1);
        due.is("the buffer is empty, too", lifts.truncateInput(1), false);
        StringBuilder most = new StringBuilder("floors 9;car 1 1;");
        for (int call = 0; call < 24; call++) {
            most.append("call ").append(call).append(" 0 1;");
        }
        due.is("24 calls", Due.load(lifts, most.toString()), 1);
        due.is("calls", lifts.count(2), 24);
    }

    private static void loadReplaces() {
        due.promise(4, "loadLifts replaces everything");
        String text = "floors 6;car 2 2;car 1 1;call 3 0 5;";
        BusLifts lifts = Due.loaded("floors 9;car 0 2;car 5 2;car 8 2;call 0 3 6;call 0 7 1;noise 50;seed 7;door 3;");
        lifts.setJammed(0, true);
        lifts.setStopped(1, true);
        lifts.run(60);
        lifts.saveState();
        lifts.undo();
        lifts.lateIn(60);
        due.is("cars", Due.load(lifts, text), 2);
        due.isText("all", Due.all(lifts), Due.all(Due.loaded(text)));
        due.is("changes", lifts.count(13), 0);
        due.is("undo", lifts.undo(), -1);
        due.isThrown("restoreState", IllegalStateException.class, () -> lifts.restoreState());

        // The same behind each tick of busy lifts, with all kinds of traces left, also in forecasts.
        String busy = "floors 10;car 0 2;car 8 2;car 4 1;noise 45;seed 379;patience 4;call 0 4 8;call 0 4 0;call 1 9 0;call 2 1 8;";
        for (int ticks = 1; ticks <= 60; ticks++) {
            BusLifts traces = Due.behind(ticks, busy);
            traces.setStopped(1, true);
            traces.setJammed(0, true);
            traces.lateIn(1 + ticks % 3);
            Due.load(traces, busy);
            due.isText("all anew at " + ticks, Due.all(traces), Due.all(Due.loaded(busy)));
            traces.run(30);
            due.isText("all behind it at " + ticks, Due.all(traces), Due.all(Due.behind(30, busy)));
        }
    }

    private static void leftovers() {
        due.promise(5, "bytes behind the length");
        leftover("floors 2;carx 0 1;", 12, 12);
        leftover("floors 22;", 8, 8);
        leftover("floors 2; ", 9, 9);
        leftover("floors 2;car 0 1;", 16, 16);
        for (String end : new String[] {"car", "car 0 1", "car 0 1 ", "55555", ""}) {
            BusLifts lifts = new BusLifts();
            Due.feed(lifts, "floors 2;" + " ".repeat(691 - end.length()) + end);
            due.is("a load of 700 bytes", lifts.loadLifts(), -1);
            due.is("offset with <" + end + "> at the end", lifts.errorOffset(), end.equals("55555") ? 695 : 700);
        }
    }

    private static void leftover(String text, int length, int offset) {
        BusLifts lifts = new BusLifts();
        Due.feed(lifts, text);
        lifts.truncateInput(length);
        lifts.loadLifts();
        due.is("offset of <" + text + "> cut at " + length, lifts.errorOffset(), offset);
    }

    private static void error(String text, int code, int offset) {
        BusLifts lifts = new BusLifts();
        due.is("loading <" + text + ">", Due.load(lifts, text), -1);
        due.is("code of <" + text + ">", lifts.errorCode(), code);
        due.is("offset of <" + text + ">", lifts.errorOffset(), offset);
    }

    private static void syntaxErrors() {
        due.promise(5, "errorCode SYNTAX, errorOffset");
        int code = BusLifts.SYNTAX;
        error("", code, 0);
        error(" \n ", code, 3);
        error("car 0 1;", code, 0);
        error("  noise 1;", code, 2);
        error("floor 2;", code, 0);
        error("floorss 2;", code, 0);
        error("Floors 2;", code, 0);
        error(";", code, 0);
        error("7", code, 0);
        error("floors", code, 6);
        error("floors ;", code, 7);
        error("floors 2", code, 8);
        error("floors 2 3;", code, 9);
        error("floors 2 car 0 1;", code, 9);
        error("floors 00002;car 0 1;", code, 7);
        error("floors 2;;car 0 1;", code, 9);
        error("floors 2;floors 3;", code, 9);
        error("floors 2;cars 0 1;", code, 9);
        error("floors 2;car 0 1;5;", code, 17);
        error("floors 2;car 0 1;stop 1;", code, 17);
        error("floors 2;xar 0 1;", code, 9);
        error("floors 2;cax 0 1;", code, 9);
        error("floors 2;carz 0 1;", code, 9);
        error("floors 2;cara 0 1;", code, 9);
        error("floors 2;zcar 0 1;", code, 9);
        error("xloors 2;car 0 1;", code, 0);
        error("floors 2;ca r 0 1;", code, 9);
        error("floors 2;car 0 1", code, 16);
        error("floors 2;car 0 1 \n", code, 18);
        error("floors 2;car 0;", code, 14);
        error("floors 2;car 0 1 1;", code, 17);
        error("floors 2;car 0 00001;", code, 15);
        error("floors 2;car 0 -1;", code, 15);
        error("floors 2;car 0\t1;", code, 14);
        error("floors 2;car 0 1;call 1 0;", code, 25);
        error("floors 2;car 0 1;call 1 0 1", code, 27);
        error("floors 2;car 0 1;call 10000 0 1;", code, 22);
        error("floors 2;car 0 1;seed 10000;", code, 22);
        error("floors 2;car 0 1;seed;", code, 21);
        error("floors 2;car 0 1;door x;", code, 22);
        error("floors 2;car 0 1;#", code, 17);
        error("floors 2;car 0 1;\r\n", code, 17);
        error("floors 2;car 0 1;\u00e1", code, 17);
    }

    private static void rangeErrors() {
        due.promise(5, "errorCode OUT_OF_RANGE, errorOffset");
        int code = BusLifts.OUT_OF_RANGE;
        error("floors 1;car 0 1;", code, 7);
        error("floors 31;car 0 1;", code, 7);
        error("floors 0", code, 7);
        error("floors 2;car 2 1;", code, 13);
        error("floors 2;car 0 0;", code, 15);
        error("floors 2;car 0 9;", code, 15);
        error("floors 2;car 0 1;call 1000 0 1;", code, 22);
        error("floors 2;car 0 1;call 0 2 1;", code, 24);
        error("floors 2;car 0 1;call 0 0 2;", code, 26);
        error("floors 2;car 0 1;call 0 1 01;", code, 26);
        error("floors 2;car 0 1;noise 91;", code, 23);
        error("floors 2;car 0 1;patience 2;", code, 26);
        error("floors 2;car 0 1;patience 51;", code, 26);
        error("floors 2;car 0 1;weight 21;", code, 24);
        error("floors 2;car 0 1;door 6;", code, 22);
        error("floors 2;car 0 1;bound 0;", code, 23);
        error("floors 2;car 0 1;bound 1000;", code, 23);
    }

    private static void misplacedErrors() {
        due.promise(5, "errorCode MISPLACED and NO_CAR, errorOffset");
        error("floors 2;car 0 1;car 0 1;car 0 1;car 0 1; car 9 9;", BusLifts.MISPLACED, 42);
        String[] words = {"noise", "patience", "weight", "door", "bound", "seed"};
        for (String word : words) {
            error("floors 2;" + word + " 3;car 0 1;" + word + ";", BusLifts.MISPLACED, 20 + word.length());
            BusLifts lifts = new BusLifts();
            due.is(word + " once", Due.load(lifts, "floors 2;" + word + " 3;car 0 1;"), 1);
        }
        StringBuilder most = new StringBuilder("floors 9;car 1 1;");
        for (int call = 0; call < 24; call++) {
            most.append("call 1 0 1;");
        }
        error(most + "call", BusLifts.MISPLACED, 17 + 24 * 11);
        error("floors 2;", BusLifts.NO_CAR, 9);
        error("floors 2; \n", BusLifts.NO_CAR, 11);
        error("floors 2;call 0 0 1;door 2;", BusLifts.NO_CAR, 27);
    }

    private static void errorKeeps() {
        due.promise(6, "errorOffset");
        BusLifts lifts = Due.behind(5, "floors 10;car 0 2;car 9 2;call 0 3 6;call 0 7 1;");
        lifts.saveState();
        lifts.set(3, 4);
        String before = Due.all(lifts);
        due.is("offset without an error", lifts.errorOffset(), -1);
        due.is("a failed load", Due.load(lifts, "floors 5;car 1 1;call 0 1 2;noise 9;weight 21;"), -1);
        due.isText("all behind it", Due.all(lifts), before);
        due.is("changes behind it", lifts.count(13), 2);
        due.is("code", lifts.errorCode(), 2);
        due.is("offset", lifts.errorOffset(), 43);
        lifts.run(3);
        lifts.undo();
        due.is("the code stays", lifts.errorCode(), 2);
        due.is("the offset stays", lifts.errorOffset(), 43);
        due.is("the saved state stays", lifts.restoreState(), 5);
        due.is("a load", Due.load(lifts, "floors 5;car 1 1;"), 1);
        due.is("code behind it", lifts.errorCode(), 0);
        due.is("offset behind it", lifts.errorOffset(), -1);
    }
}
