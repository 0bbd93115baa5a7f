/** The boundary cases that the terms "Setup text" and promises 1 to 6 name, in the document's order. */
public final class EdgeSetupTest {
    private static final Due due = new Due();

    public static void main(String[] arguments) {
        rangesOfNumbers();
        howManyCarsAndCalls();
        onceEach();
        defaults();
        lengthsOfNumbers();
        bytesBetweenTokens();
        bytesInsideTokens();
        endOfText();
        firstErrorAndSmallestCode();
        anErrorChangesNothing();
        aLoadReplacesEverything();
        newObjects();
        appending();
        truncating();
        emptying();
        reporting();
        due.end();
    }

    /** Loads a text and tells all of it in one number: cars, or -1000 * code - offset. */
    private static int loading(String text) {
        BusLifts lifts = new BusLifts();
        int cars = Due.load(lifts, text);
        if (cars >= 0) {
            due.is("code of <" + text + ">", lifts.errorCode(), BusLifts.NO_ERROR);
            due.is("offset of <" + text + ">", lifts.errorOffset(), -1);
            return cars;
        }
        due.is("answer to <" + text + ">", cars, -1);
        return -1000 * lifts.errorCode() - lifts.errorOffset();
    }

    private static int error(int code, int offset) {
        return -1000 * code - offset;
    }

    private static void loads(String text, int cars) {
        due.is("<" + text + ">", loading(text), cars);
    }

    private static void fails(String text, int code, int offset) {
        due.is("<" + text + ">", loading(text), error(code, offset));
    }

    private static void rangesOfNumbers() {
        range("floors ", ";car 0 1;", 2, 30);
        range("floors 2;car ", " 1;", 0, 1);
        range("floors 30;car ", " 1;", 0, 29);
        range("floors 2;car 1 ", ";", 1, 8);
        range("floors 30;car 7 1;call ", " 0 1;", 0, 999);
        range("floors 2;car 0 1;call 0 0 ", ";", 1, 1);
        range("floors 30;car 0 1;call 0 0 ", ";", 1, 29);
        range("floors 2;car 0 1;noise ", ";", 0, 90);
        range("floors 2;car 0 1;patience ", ";", 3, 50);
        range("floors 2;car 0 1;weight ", ";", 0, 20);
        range("floors 2;car 0 1;door ", ";", 0, 5);
        range("floors 2;car 0 1;bound ", ";", 1, 999);
        range("floors 2;car 0 1;seed ", ";", 0, 9999);
        due.promise(4, "the range of a floor from which a call goes");
        loads("floors 30;car 0 1;call 0 28 29;", 1);
        loads("floors 30;car 0 1;call 0 29 28;", 1);
        loads("floors 30;car 0 1;call 0 0 29;", 1);
        fails("floors 30;car 0 1;call 0 30 29;", BusLifts.OUT_OF_RANGE, 25);
        fails("floors 2;car 0 1;call 0 2 1;", BusLifts.OUT_OF_RANGE, 24);
        due.promise(4, "the floor to which a call goes is the one from which it goes");
        for (int floor = 0; floor < 10; floor++) {
            fails("floors 10;car 0 1;call 0 " + floor + " " + floor + ";", BusLifts.OUT_OF_RANGE, 27);
        }
    }

    /** Every number up to far above the range, and the greatest of four digits. */
    private static void range(String before, String behind, int least, int most) {
        due.promise(4, "the range " + least + " to " + most);
        for (int value = 0; value <= 1100; value++) {
            boolean inside = value >= least && value <= most;
            due.is(before + value + behind, loading(before + value + behind),
                inside ? 1 : error(BusLifts.OUT_OF_RANGE, before.length()));
        }
        due.is("9999 in " + before, loading(before + 9999 + behind), most == 9999 ? 1 : error(BusLifts.OUT_OF_RANGE, before.length()));
        due.is("10000 in " + before, loading(before + 10000 + behind), error(BusLifts.SYNTAX, before.length()));
        fails(before + "-1" + behind, BusLifts.SYNTAX, before.length());
    }

    private static void howManyCarsAndCalls() {
        due.promise(4, "1 to 4 cars");
        fails("floors 9;", BusLifts.NO_CAR, 9);
        StringBuilder text = new StringBuilder("floors 9;");
        for (int cars = 1; cars <= 4; cars++) {
            text.append("car 8 1;");
            loads(text.toString(), cars);
        }
        fails(text + "car 8 1;", BusLifts.MISPLACED, text.length());
        fails(text + "door 2; car", BusLifts.MISPLACED, text.length() + 8);
        due.promise(4, "at most 24 calls");
        for (int calls = 0; calls <= 24; calls++) {
            BusLifts lifts = new BusLifts();
            Due.load(lifts, text.toString());
            due.is("calls", lifts.count(2), calls);
            text.append("call 9 0 1;");
        }
        fails(text.toString(), BusLifts.MISPLACED, text.length() - 11);
        fails(text.toString().replace("car 8 1;", ""), BusLifts.MISPLACED, 9 + 24 * 11);
    }

    private static void onceEach() {
        due.promise(4, "at most once each");
        String[] words = {"noise", "seed", "patience", "weight", "door", "bound"};
        for (String word : words) {
            loads("floors 2;" + word + " 4;car 0 1;", 1);
            fails("floors 2;" + word + " 4;car 0 1;" + word + " 4;", BusLifts.MISPLACED, 20 + word.length());
            fails("floors 2;" + word + " 4;" + word + "x 4;", BusLifts.SYNTAX, 12 + word.length());
            for (String other : words) {
                due.is(word + " and " + other, loading("floors 2;" + word + " 4;" + other + " 4;car 0 1;"),
                    word.equals(other) ? error(BusLifts.MISPLACED, 12 + word.length()) : 1);
            }
        }
        fails("floors 2;car 0 1;floors 2;", BusLifts.SYNTAX, 17);
    }

    private static void defaults() {
        due.promise(4, "what the settings and the seed are without a statement");
        int[] without = {0, 6, 2, 1, 30, 1};
        String[] words = {"noise", "patience", "weight", "door", "bound", "seed"};
        for (int which = 0; which < 6; which++) {
            BusLifts lifts = Due.loaded("floors 2;car 0 1;" + words[which] + " 5;");
            for (int what = 0; what < 6; what++) {
                due.is(words[what], lifts.count(4 + what), what == which ? 5 : without[what]);
            }
            Due.load(lifts, "floors 2;car 0 1;");
            due.is(words[which] + " behind a load without it", lifts.count(4 + which), without[which]);
        }
    }

    private static void lengthsOfNumbers() {
        due.promise(4, "numbers of 1 to 4 digits");
        for (String number : new String[] {"5", "05", "005", "0005"}) {
            loads("floors " + number + ";car 4 1;", 1);
            loads("floors 6;car " + number + " " + number + ";", 1);
            loads("floors 6;car 0 1;bound " + number + ";", 1);
        }
        for (String number : new String[] {"00005", "000000", "99999", "2147483648", "4294967298", "10000000000000000000002"}) {
            fails("floors " + number + ";car 4 1;", BusLifts.SYNTAX, 7);
            fails("floors 6;car 0 " + number + ";", BusLifts.SYNTAX, 15);
            fails("floors 6;car 0 1;noise  " + number, BusLifts.SYNTAX, 24);
        }
    }

    private static void bytesBetweenTokens() {
        due.promise(4, "spaces and line feeds between tokens, and no other byte");
        for (int sign = 0; sign < 256; sign++) {
            boolean blank = sign == ' ' || sign == '\n';
            String between = "" + (char) sign;
            due.is("byte " + sign + " at the beginning", loading(between + "floors 9;car 0 1;"), blank ? 1 : error(BusLifts.SYNTAX, 0));
            due.is("byte " + sign + " between statements", loading("floors 9;" + between + "car 0 1;"),
                blank ? 1 : error(BusLifts.SYNTAX, 9));
            due.is("byte " + sign + " at the end", loading("floors 9;car 0 1;" + between), blank ? 1 : error(BusLifts.SYNTAX, 17));
            due.is("byte " + sign + " before a semicolon", loading("floors 9;car 0 1 " + between + ";"),
                blank ? 1 : error(BusLifts.SYNTAX, sign == ';' ? 18 : 17));
        }
        loads("floors2;car0 1;", 1);
        loads("\n \n floors\n9\n;\ncar\n8\n8\n;\n \n", 1);
        loads("floors 9;car 8 8;call 0 1 2;", 1);
        fails("floors 9;car 88;", BusLifts.OUT_OF_RANGE, 13);
    }

    private static void bytesInsideTokens() {
        due.promise(4, "maximal runs of letters, and of digits");
        for (int sign = 0; sign < 256; sign++) {
            fails("floors 9;ca" + (char) sign + "r 0 1;", BusLifts.SYNTAX, 9);
            boolean blank = sign == ' ' || sign == '\n';
            boolean digit = sign >= '0' && sign <= '9';
            int other = digit ? error(BusLifts.OUT_OF_RANGE, 14) : error(BusLifts.SYNTAX, 15);
            due.is("byte " + sign + " between digits", loading("floors 30;car 1" + (char) sign + "2;"), blank ? 1 : other);
        }
    }

    private static void endOfText() {
        due.promise(6, "the end of the text where more is required");
        String text = "floors 9;car 3 2;call 4 1 8;door 2;";
        int[] words = {0, 9, 17, 28};
        int[] ends = {6, 12, 21, 32};
        for (int length = 0; length <= text.length(); length++) {
            int offset = length;
            for (int word = 0; word < 4; word++) {
                offset = length > words[word] && length < ends[word] ? words[word] : offset;
            }
            int wanted = length == 17 || length == 28 || length == 35 ? 1 : error(BusLifts.SYNTAX, offset);
            due.is("the first " + length + " bytes", loading(text.substring(0, length)),
                length == 9 ? error(BusLifts.NO_CAR, 9) : wanted);
        }
        due.promise(6, "the end of the text, if there is no car");
        fails("floors 9;call 4 1 8;door 2;", BusLifts.NO_CAR, 27);
        fails("floors 9;call 4 1 8;door 2;\n ", BusLifts.NO_CAR, 29);
        fails("floors 9;" + " ".repeat(691), BusLifts.NO_CAR, 700);
        loads("floors 9;" + " ".repeat(683) + "car 0 1;", 1);
        fails("floors 9;" + " ".repeat(684) + "car 0 1", BusLifts.SYNTAX, 700);
        fails("floors 9;car 0 1;" + " ".repeat(682) + ";", BusLifts.SYNTAX, 699);
    }

    private static void firstErrorAndSmallestCode() {
        due.promise(5, "the first error met");
        fails("floors 9;car 9 9;car 0 1;?", BusLifts.OUT_OF_RANGE, 13);
        fails("floors 9;car 0 9;noise 1;noise 1;", BusLifts.OUT_OF_RANGE, 15);
        fails("floors 9;noise 1;noise 91", BusLifts.MISPLACED, 17);
        fails("floors 9;?car 9 9;", BusLifts.SYNTAX, 9);
        fails("floors 9;call 0 9 10;", BusLifts.OUT_OF_RANGE, 16);
        due.promise(5, "the one with the smallest code for one token");
        fails("floors 99999;", BusLifts.SYNTAX, 7);
        fails("noise 91;floors 9;", BusLifts.SYNTAX, 0);
        fails("floors 9;99", BusLifts.SYNTAX, 9);
        fails("floors 9;car 0 1 99;", BusLifts.SYNTAX, 17);
        fails("floors 9;door", BusLifts.SYNTAX, 13);
        fails("floors 9;car", BusLifts.SYNTAX, 12);
        fails("floors 9;car 0 1;car 0 1;car 0 1;car 0 1;cars", BusLifts.SYNTAX, 41);
        fails("floors 9;car 0 1;car 0 1;car 0 1;car 0 1;floors", BusLifts.SYNTAX, 41);
        fails("floors 9;car 0 1;door 1;door", BusLifts.MISPLACED, 24);
    }

    private static BusLifts busy() {
        BusLifts lifts = Due.loaded("floors 10;car 0 2;car 8 2;car 4 1;noise 45;seed 379;patience 4;"
            + "call 0 4 8;call 0 4 0;call 1 9 0;call 2 1 8;door 3;weight 5;bound 3;");
        lifts.run(19);
        lifts.setStopped(2, true);
        lifts.saveState();
        lifts.setJammed(1, true);
        lifts.run(2);
        lifts.printCar(1);
        return lifts;
    }

    private static void anErrorChangesNothing() {
        due.promise(4, "an error changes nothing but the input buffer and the reported error");
        String[] texts = {"", "floors 1;", "floors 3;car 1 1;call 5 0 1;noise 1;seed 3;patience 9;weight 3;door 2;bound 1;bound 1;",
            "floors 3;", "floors 3;car 1 1;car 1 1;car 1 1;car 1 1;car 1 1;", "floors 3;car 1 1;call 1 2 2;"};
        for (String text : texts) {
            BusLifts lifts = busy();
            String before = Due.all(lifts);
            due.is("a load of <" + text + ">", Due.load(lifts, text), -1);
            due.isText("all behind <" + text + ">", Due.all(lifts), before);
            due.is("changes", lifts.count(13), 4);
            due.is("the output", lifts.outputByte(9), busy().outputByte(9));
            due.is("its length", lifts.outputByte(10), -1);
            lifts.undo();
            due.isText("all undone", Due.all(lifts), Due.all(undone()));
            due.is("the saved state", lifts.restoreState(), 19);
            due.is("the code is still reported", lifts.errorCode() != BusLifts.NO_ERROR, true);
        }
    }

    private static BusLifts undone() {
        BusLifts lifts = busy();
        lifts.undo();
        return lifts;
    }

    private static void aLoadReplacesEverything() {
        due.promise(4, "a successful load replaces everything");
        String text = "floors 10;car 1 2;car 2 2;car 3 1;call 0 4 8;call 0 4 0;call 1 9 0;call 2 1 8;";
        BusLifts lifts = busy();
        due.is("a load", Due.load(lifts, text), 3);
        due.is("the time", lifts.count(3), 0);
        due.is("nothing can be undone", lifts.count(13), 0);
        due.is("undo", lifts.undo(), -1);
        due.isThrown("no state is saved", IllegalStateException.class, () -> lifts.restoreState());
        due.is("nothing was sent or lost", lifts.messages(-1, false) + lifts.messages(-1, true), 0);
        due.is("nothing is on its way", lifts.count(12), 0);
        for (int car = 0; car < 3; car++) {
            due.is("floor", lifts.car(car, 0), car + 1);
            for (int what = 2; what <= 9; what++) {
                due.is("car " + car + ", " + what, lifts.car(car, what), 0);
            }
            for (int call = 0; call < 4; call++) {
                due.is("knows nothing", lifts.knownBest(car, call), -1);
                due.is("decides nothing", lifts.decides(car, call), -1);
                for (int kind = 0; kind <= 3; kind++) {
                    due.is("lost nothing", lifts.hasLost(car, call, kind), false);
                }
            }
        }
        for (int cause = 1; cause <= 4; cause++) {
            due.is("stops for nobody", lifts.nobody(cause), 0);
        }
        due.isText("all", Due.all(lifts), Due.all(Due.loaded(text)));
        lifts.run(40);
        due.isText("all later", Due.all(lifts), Due.all(Due.behind(40, text)));
    }

    private static void newObjects() {
        due.promise(1, "as if a text was loaded, with an empty input buffer");
        BusLifts lifts = new BusLifts();
        due.is("the buffer is empty", lifts.truncateInput(1), false);
        due.is("nothing to load", lifts.loadLifts(), -1);
        due.is("the error of no text", lifts.errorCode(), BusLifts.SYNTAX);
        due.is("at", lifts.errorOffset(), 0);
        due.isText("the lifts are still there", Due.all(lifts), Due.all(Due.loaded("floors 2;car 0 1;")));
        BusLifts one = new BusLifts();
        BusLifts other = new BusLifts();
        one.makeCall(0, 1);
        one.run(30);
        one.appendInput(1, 1, 1, 1, 1);
        one.printCar(0);
        due.isText("objects share nothing", Due.all(other), Due.all(new BusLifts()));
        due.is("nor the buffer", other.truncateInput(1), false);
        due.is("nor the output", other.outputByte(0), -1);
        due.is("nor the changes", other.undo(), -1);
    }

    private static void appending() {
        due.promise(2, "-1, with no change, if the length would exceed 700");
        String text = "floors 9;" + " ".repeat(663) + "car 8 8;";
        for (int length = 680; length <= 700; length++) {
            BusLifts lifts = new BusLifts();
            Due.feed(lifts, text);
            fillTo(lifts, length);
            due.is("20 more than " + length, lifts.appendInput(0x3f3f3f3f, 0, 0, 0, -1), length == 680 ? 700 : -1);
            due.is("the length " + length + " behind it", lifts.truncateInput(length + 1), length == 680);
            lifts.truncateInput(length);
            due.is("the bytes behind it", lifts.loadLifts(), 1);
        }
        due.promise(2, "the most significant byte first");
        int[] words = {0x666c6f6f, 0x72732039, 0x3b636172, 0x20372032, 0x3b646f6f, 0x72333b20};
        BusLifts lifts = new BusLifts();
        due.is("20", lifts.appendInput(words[0], words[1], words[2], words[3], words[4]), 20);
        due.is("40", lifts.appendInput(words[5], 0x20202020, 0x0a0a0a0a, 0x20200a0a, 0x200a200a), 40);
        due.is("loads", lifts.loadLifts(), 1);
        due.is("floors", lifts.count(0), 9);
        due.is("car", lifts.car(0, 0) * 10 + lifts.car(0, 1), 72);
        due.is("door", lifts.count(7), 3);
        due.promise(2, "bytes with the highest bit, in each place");
        for (int place = 0; place < 20; place++) {
            for (int sign : new int[] {0x80, 0xff, 0xbb}) {
                BusLifts high = new BusLifts();
                int[] five = {0x20202020, 0x20202020, 0x20202020, 0x20202020, 0x20202020};
                int shift = 24 - place % 4 * 8;
                five[place / 4] = five[place / 4] & ~(255 << shift) | sign << shift;
                high.appendInput(five[0], five[1], five[2], five[3], five[4]);
                due.is("byte " + sign + " at " + place, high.loadLifts(), -1);
                due.is("its offset", high.errorOffset(), place);
                due.is("its code", high.errorCode(), BusLifts.SYNTAX);
            }
        }
    }

    /** Lengthens a buffer of 680 bytes by blanks. */
    private static void fillTo(BusLifts lifts, int length) {
        if (length > 680) {
            lifts.appendInput(0x20202020, 0x20202020, 0x20202020, 0x20202020, 0x20202020);
            lifts.truncateInput(length);
        }
    }

    private static void truncating() {
        due.promise(3, "false, with no change, if length is negative or greater than the current length");
        for (int length : new int[] {0, 20, 700}) {
            BusLifts lifts = new BusLifts();
            Due.feed(lifts, " ".repeat(length));
            due.is("the least int of " + length, lifts.truncateInput(Integer.MIN_VALUE), false);
            due.is("-1 of " + length, lifts.truncateInput(-1), false);
            due.is("one more than " + length, lifts.truncateInput(length + 1), false);
            due.is("the greatest int of " + length, lifts.truncateInput(Integer.MAX_VALUE), false);
            due.is("all of " + length, lifts.truncateInput(length), true);
            due.is("no change", lifts.loadLifts(), -1);
            due.is("the length as before", lifts.errorOffset(), length);
        }
        due.promise(3, "the new length");
        BusLifts lifts = new BusLifts();
        Due.feed(lifts, "floors 9;car 0 1;noise");
        due.is("17 of 22", lifts.truncateInput(17), true);
        due.is("18 of 17", lifts.truncateInput(18), false);
        due.is("what is cut off is not read", lifts.loadLifts(), 1);
        Due.feed(lifts, "floors 9;");
        due.is("to 0", lifts.truncateInput(0), true);
        due.is("1 of 0", lifts.truncateInput(1), false);
        due.is("nothing is left", lifts.loadLifts(), -1);
        due.is("offset", lifts.errorOffset(), 0);
    }

    private static void emptying() {
        due.promise(4, "empties the buffer, whether the load succeeds or not");
        BusLifts lifts = new BusLifts();
        due.is("succeeds", Due.load(lifts, "floors 9;car 0 1;"), 1);
        due.is("empty", lifts.truncateInput(1), false);
        due.is("a new text stands alone", lifts.appendInput(0x20202020, 0x20202020, 0x20202020, 0x20202020, 0x20202020), 20);
        due.is("fails", lifts.loadLifts(), -1);
        due.is("empty again", lifts.truncateInput(1), false);
        due.is("once more", lifts.loadLifts(), -1);
        due.is("an empty text", lifts.errorOffset(), 0);
        due.is("the lifts are the loaded ones", lifts.count(0), 9);
    }

    private static void reporting() {
        due.promise(5, "NO_ERROR if that call succeeded or there was no call");
        BusLifts lifts = new BusLifts();
        due.is("no call", lifts.errorCode(), BusLifts.NO_ERROR);
        due.is("no offset", lifts.errorOffset(), -1);
        Due.feed(lifts, "floors 1;");
        due.is("not loaded yet", lifts.errorCode(), BusLifts.NO_ERROR);
        lifts.loadLifts();
        due.is("failed", lifts.errorCode(), BusLifts.OUT_OF_RANGE);
        due.is("its offset", lifts.errorOffset(), 7);
        Due.feed(lifts, "floors 2;car 0 1;");
        lifts.run(1);
        lifts.saveState();
        lifts.restoreState();
        due.is("still the latest call", lifts.errorCode(), BusLifts.OUT_OF_RANGE);
        due.is("its offset still", lifts.errorOffset(), 7);
        Due.load(lifts, "floors 2;car 0 1;");
        due.is("succeeded", lifts.errorCode(), BusLifts.NO_ERROR);
        due.promise(6, "-1 if errorCode() is NO_ERROR");
        due.is("offset", lifts.errorOffset(), -1);
    }
}
