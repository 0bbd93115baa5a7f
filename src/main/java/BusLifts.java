import java.util.NoSuchElementException;

/** Elevators whose controllers talk over a noisy bus. */
public final class BusLifts {
    public static final int NO_ERROR = 0;
    public static final int SYNTAX = 1;
    public static final int OUT_OF_RANGE = 2;
    public static final int MISPLACED = 3;
    public static final int NO_CAR = 4;

    private static final int MOST_BYTES = 700;
    private static final int MOST_FLOORS = 30;
    private static final int MOST_CARS = 4;
    private static final int MOST_CALLS = 24;
    private static final int MOST_CHANGES = 10;
    private static final int MOST_TICKS = 500;
    private static final int MOST_CAPACITY = 8;
    private static final int LATEST_CALL = 999;
    private static final int CAUSES = 4;

    /*
     * What is sent in one tick: each call is announced at most once, each car answers each of
     * these announcements at most once, claims each call at most once and each call is reported
     * at most once.
     */
    private static final int MOST_MESSAGES = MOST_CALLS * (2 * MOST_CARS + 2);

    private static final int COMING = 0;
    private static final int WAITING = 1;
    private static final int ABOARD = 2;
    private static final int DONE = 3;

    private static final int ANNOUNCEMENT = 0;
    private static final int BID = 1;
    private static final int CLAIM = 2;
    private static final int REPORT = 3;
    private static final int KINDS = 4;
    private static final int STATION = -1;

    private static final int NOISE = 0;
    private static final int PATIENCE = 1;
    private static final int WEIGHT = 2;
    private static final int DOOR = 3;
    private static final int BOUND = 4;
    private static final int SETTINGS = 5;
    private static final int[] LEAST_SETTING = {0, 3, 0, 0, 1};
    private static final int[] MOST_SETTING = {90, 50, 20, 5, 999};
    private static final int[] FIRST_SETTING = {0, 6, 2, 1, 30};
    private static final int FIRST_SEED = 1;
    private static final int MOST_SEED = 9999;

    /** Above every wait that can be. */
    private static final int NEVER = 0x7fffffff;

    private final int[] input = new int[MOST_BYTES];
    private int inputLength;
    private int error = NO_ERROR;
    private int errorAt = -1;
    private final int[] output = new int[MOST_FLOORS];
    private int outputLength;
    private final Lifts now = new Lifts();
    private final Lifts ahead = new Lifts();
    private final Lifts saved = new Lifts();
    private boolean isSaved;
    private final History history = new History();
    private final Bus bus = new Bus();
    private final SetupReader reader = new SetupReader();

    public BusLifts() {
        now.clear(2);
        now.addCar(0, 1);
    }

    // ---- the setup

    public int appendInput(int a, int b, int c, int d, int e) {
        if (inputLength > MOST_BYTES - 20) {
            return -1;
        }
        appendFour(a);
        appendFour(b);
        appendFour(c);
        appendFour(d);
        appendFour(e);
        return inputLength;
    }

    private void appendFour(int word) {
        for (int shift = 24; shift >= 0 && inputLength < input.length; shift -= 8) {
            input[inputLength] = (word >>> shift) & 255;
            inputLength++;
        }
    }

    public boolean truncateInput(int length) {
        if (length < 0 || length > inputLength) {
            return false;
        }
        inputLength = length;
        return true;
    }

    public int loadLifts() {
        // An error must leave the lifts as they are, so the text is read into the copy.
        boolean loaded = reader.read(input, inputLength, ahead);
        inputLength = 0;
        error = reader.error;
        errorAt = reader.errorAt;
        if (!loaded) {
            return -1;
        }
        now.copyFrom(ahead);
        history.clear();
        isSaved = false;
        return now.carCount;
    }

    public int errorCode() {
        return error;
    }

    public int errorOffset() {
        return errorAt;
    }

    // ---- what is tested before an answer

    private void checkCar(int car) {
        if (car < 0 || car >= now.carCount) {
            throw new IndexOutOfBoundsException("no such car");
        }
    }

    private void checkCall(int call) {
        if (call < 0 || call >= now.callCount) {
            throw new IndexOutOfBoundsException("no such call");
        }
    }

    private void checkFloor(int floor) {
        if (floor < 0 || floor >= now.floors) {
            throw new IllegalArgumentException("no such floor");
        }
    }

    private void checkWay(int from, int to) {
        checkFloor(from);
        checkFloor(to);
        if (from == to) {
            throw new IllegalArgumentException("the same floor twice");
        }
    }

    private void checkTicks(int ticks) {
        checkRange(ticks, 1, MOST_TICKS);
    }

    private static void checkRange(int value, int least, int most) {
        if (value < least || value > most) {
            throw new IllegalArgumentException("out of range");
        }
    }

    // ---- questions about the lifts now

    public int count(int what) throws IllegalArgumentException {
        checkRange(what, 0, 13);
        switch (what) {
            case 0:
                return now.floors;
            case 1:
                return now.carCount;
            case 2:
                return now.callCount;
            case 3:
                return now.time;
            case 9:
                return now.seed;
            case 10:
                return now.countInState(WAITING);
            case 11:
                return now.countInState(DONE);
            case 12:
                return now.sent.size;
            case 13:
                return history.size;
            default:
                return now.settings[what - 4];
        }
    }

    public int car(int car, int what) throws IndexOutOfBoundsException, IllegalArgumentException {
        checkCar(car);
        checkRange(what, 0, 9);
        Car asked = now.cars[car];
        switch (what) {
            case 0:
                return asked.floor;
            case 1:
                return asked.capacity;
            case 2:
                return asked.door;
            case 3:
                return Integer.bitCount(asked.heldCalls);
            case 4:
                return Integer.bitCount(asked.aboardCalls);
            case 5:
                return asked.stopped ? 1 : 0;
            case 6:
                return asked.jammed ? 1 : 0;
            case 7:
                return asked.floorsGone;
            case 8:
                return asked.stops;
            default:
                return asked.stopsForNobody;
        }
    }

    public int call(int call, int what) throws IndexOutOfBoundsException, IllegalArgumentException {
        checkCall(call);
        checkRange(what, 0, 10);
        Call asked = now.calls[call];
        switch (what) {
            case 0:
                return asked.from;
            case 1:
                return asked.to;
            case 2:
                return asked.madeAt;
            case 3:
                return asked.state;
            case 4:
                return asked.takenBy;
            case 5:
                return asked.aboardAt;
            case 6:
                return asked.doneAt;
            case 7:
                return asked.rounds;
            case 8:
                return asked.claimedBy;
            case 9:
                return now.holders(call);
            default:
                return asked.announcedAt;
        }
    }

    public int waitOf(int call) throws IndexOutOfBoundsException {
        checkCall(call);
        return now.waitTime(call);
    }

    public boolean holds(int car, int call) throws IndexOutOfBoundsException {
        checkCar(car);
        checkCall(call);
        return now.cars[car].isHolding(call);
    }

    public int ownCost(int car, int call) throws IndexOutOfBoundsException {
        checkCar(car);
        checkCall(call);
        return now.cars[car].knownOwnCost(call);
    }

    public int decides(int car, int call) throws IndexOutOfBoundsException {
        checkCar(car);
        checkCall(call);
        return now.cars[car].decideAt[call];
    }

    public int noted(int car, int call, int other) throws IndexOutOfBoundsException {
        checkCar(car);
        checkCall(call);
        checkCar(other);
        return now.cars[car].notedBid(call, other);
    }

    public int costNow(int car, int call) throws IndexOutOfBoundsException {
        checkCar(car);
        checkCall(call);
        return now.costFrom(car, now.calls[call].from);
    }

    public int held(int car, int index) throws IndexOutOfBoundsException, NoSuchElementException {
        checkCar(car);
        int left = index;
        for (int call = 0; call < now.callCount; call++) {
            if (now.cars[car].isHolding(call)) {
                if (left == 0) {
                    return call;
                }
                left--;
            }
        }
        throw new NoSuchElementException("no such index");
    }

    public int goal(int car) throws IndexOutOfBoundsException {
        checkCar(car);
        return now.nearestGoal(now.cars[car]);
    }

    public int messages(int kind, boolean lost) throws IllegalArgumentException {
        checkRange(kind, -1, KINDS - 1);
        int[] counted = lost ? now.lostByKind : now.sentByKind;
        if (kind >= 0) {
            return counted[kind];
        }
        return sum(counted);
    }

    private static int sum(int[] numbers) {
        int sum = 0;
        for (int index = 0; index < numbers.length; index++) {
            sum += numbers[index];
        }
        return sum;
    }

    public boolean hasLost(int car, int call, int kind) throws IndexOutOfBoundsException, IllegalArgumentException {
        checkCar(car);
        checkCall(call);
        checkRange(kind, 0, KINDS - 1);
        return now.cars[car].lost(call, kind);
    }

    public int nobody(int cause) throws IllegalArgumentException {
        checkRange(cause, 1, CAUSES);
        return now.nobodyByCause[cause];
    }

    public int longestWait() {
        return now.greatestWait();
    }

    public double meanWait() {
        int sum = 0;
        int number = 0;
        for (int call = 0; call < now.callCount; call++) {
            if (now.calls[call].state >= ABOARD) {
                sum += now.waitTime(call);
                number++;
            }
        }
        return number == 0 ? 0.0 : (double) sum / (double) number;
    }

    public float lateShare() {
        int made = now.callCount - now.countInState(COMING);
        return made == 0 ? 0.0f : (float) now.lateCalls() / (float) made;
    }

    public int doubles() {
        int mask = 0;
        for (int call = 0; call < now.callCount; call++) {
            if (now.holders(call) > 1) {
                mask |= 1 << call;
            }
        }
        return mask;
    }

    public int orphans() {
        int mask = 0;
        for (int call = 0; call < now.callCount; call++) {
            if (now.calls[call].state == WAITING && now.holders(call) == 0) {
                mask |= 1 << call;
            }
        }
        return mask;
    }

    public int ride(int call) throws IndexOutOfBoundsException {
        checkCall(call);
        return Math.abs(now.calls[call].from - now.calls[call].to);
    }

    public int busiest() {
        int best = 0;
        for (int car = 1; car < now.carCount; car++) {
            if (now.cars[car].floorsGone > now.cars[best].floorsGone) {
                best = car;
            }
        }
        return best;
    }

    public int fullestFloor() {
        int best = -1;
        int most = 0;
        for (int floor = 0; floor < now.floors; floor++) {
            int made = now.madeFrom(floor);
            if (made > most) {
                best = floor;
                most = made;
            }
        }
        return best;
    }

    public int riders(int car) throws IndexOutOfBoundsException {
        checkCar(car);
        return now.cars[car].aboardCalls;
    }

    public int served(int car) throws IndexOutOfBoundsException {
        checkCar(car);
        int number = 0;
        for (int call = 0; call < now.callCount; call++) {
            if (now.calls[call].takenBy == car) {
                number++;
            }
        }
        return number;
    }

    public double meanRide() {
        int sum = 0;
        int number = 0;
        for (int call = 0; call < now.callCount; call++) {
            Call asked = now.calls[call];
            if (asked.state == DONE) {
                sum += asked.doneAt - asked.aboardAt;
                number++;
            }
        }
        return number == 0 ? 0.0 : (double) sum / (double) number;
    }

    public int knownBest(int car, int call) throws IndexOutOfBoundsException {
        checkCar(car);
        checkCall(call);
        Car asked = now.cars[car];
        int best = -1;
        int least = 0;
        for (int other = 0; other < now.carCount; other++) {
            int cost = other == car ? asked.knownOwnCost(call) : asked.notedBid(call, other);
            if (cost >= 0 && (best < 0 || cost < least)) {
                best = other;
                least = cost;
            }
        }
        return best;
    }

    public int cheapest(int from) throws IllegalArgumentException {
        checkFloor(from);
        int best = -1;
        int least = 0;
        for (int car = 0; car < now.carCount; car++) {
            int cost = now.costFrom(car, from);
            if (!now.cars[car].stopped && (best < 0 || cost < least)) {
                best = car;
                least = cost;
            }
        }
        return best;
    }

    public int allRounds() {
        int sum = 0;
        for (int call = 0; call < now.callCount; call++) {
            sum += now.calls[call].rounds;
        }
        return sum;
    }

    public int claimLeft(int call) throws IndexOutOfBoundsException {
        checkCall(call);
        Call asked = now.calls[call];
        if (asked.state != WAITING || asked.claimedBy < 0) {
            return -1;
        }
        return Math.max(0, asked.claimedAt + 10 * now.settings[PATIENCE] - now.time);
    }

    public int crowd(int floor, boolean up) throws IllegalArgumentException {
        checkFloor(floor);
        int number = 0;
        for (int call = 0; call < now.callCount; call++) {
            Call asked = now.calls[call];
            if (asked.state == WAITING && asked.from == floor && (asked.to > floor) == up) {
                number++;
            }
        }
        return number;
    }

    public double meanCost(int call) throws IndexOutOfBoundsException {
        checkCall(call);
        int sum = 0;
        for (int car = 0; car < now.carCount; car++) {
            sum += now.costFrom(car, now.calls[call].from);
        }
        return now.carCount == 0 ? 0.0 : (double) sum / (double) now.carCount;
    }

    public int waitsWithin(int low, int high) {
        int number = 0;
        for (int call = 0; call < now.callCount; call++) {
            int wait = now.waitTime(call);
            if (now.calls[call].state != COMING && wait >= low && wait <= high) {
                number++;
            }
        }
        return number;
    }

    public int mostRounds() {
        int best = -1;
        int most = 0;
        for (int call = 0; call < now.callCount; call++) {
            if (now.calls[call].rounds > most) {
                best = call;
                most = now.calls[call].rounds;
            }
        }
        return best;
    }

    // ---- changes

    public int makeCall(int from, int to) throws IllegalArgumentException, IllegalStateException {
        checkWay(from, to);
        if (now.callCount >= MOST_CALLS) {
            throw new IllegalStateException("too many calls");
        }
        history.remember(now);
        return now.addCall(now.time, from, to);
    }

    public int run(int ticks) throws IllegalArgumentException {
        checkTicks(ticks);
        history.remember(now);
        int doneBefore = now.countInState(DONE);
        bus.pass(now, ticks);
        return now.countInState(DONE) - doneBefore;
    }

    public boolean setStopped(int car, boolean stopped) throws IndexOutOfBoundsException {
        checkCar(car);
        history.remember(now);
        Car changed = now.cars[car];
        boolean before = changed.stopped;
        changed.stopped = stopped;
        if (stopped) {
            changed.dropDecisions();
        }
        return before;
    }

    public boolean setJammed(int car, boolean jammed) throws IndexOutOfBoundsException {
        checkCar(car);
        history.remember(now);
        boolean before = now.cars[car].jammed;
        now.cars[car].jammed = jammed;
        return before;
    }

    public int set(int which, int value) throws IllegalArgumentException {
        checkRange(which, 0, SETTINGS - 1);
        checkRange(value, LEAST_SETTING[which], MOST_SETTING[which]);
        history.remember(now);
        int before = now.settings[which];
        now.settings[which] = value;
        return before;
    }

    public int forget(int car, int call) throws IndexOutOfBoundsException, IllegalStateException {
        checkCar(car);
        checkCall(call);
        if (!now.cars[car].isHolding(call)) {
            throw new IllegalStateException("the car does not hold the call");
        }
        history.remember(now);
        now.cars[car].hearReport(call);
        return Integer.bitCount(now.cars[car].heldCalls);
    }

    public int undo() {
        if (history.size == 0) {
            return -1;
        }
        history.takeBack(now);
        return history.size;
    }

    public int saveState() {
        saved.copyFrom(now);
        isSaved = true;
        return now.time;
    }

    public int restoreState() throws IllegalStateException {
        if (!isSaved) {
            throw new IllegalStateException("no state is saved");
        }
        now.copyFrom(saved);
        history.clear();
        return now.time;
    }

    // ---- questions about the future

    public int lateIn(int ticks) throws IllegalArgumentException {
        checkTicks(ticks);
        ahead.copyFrom(now);
        bus.pass(ahead, ticks);
        return ahead.lateCalls();
    }

    public int aboardIn(int call, int ticks) throws IndexOutOfBoundsException, IllegalArgumentException {
        checkCall(call);
        checkTicks(ticks);
        ahead.copyFrom(now);
        return ticksUntilAboard(call, ticks);
    }

    private int ticksUntilAboard(int call, int ticks) {
        for (int passed = 0; passed < ticks; passed++) {
            if (ahead.calls[call].state >= ABOARD) {
                return passed;
            }
            bus.tick(ahead);
        }
        return ahead.calls[call].state >= ABOARD ? ticks : -1;
    }

    public int doneIn(int ticks) throws IllegalArgumentException {
        checkTicks(ticks);
        ahead.copyFrom(now);
        return ticksUntilDone(ticks);
    }

    private int ticksUntilDone(int ticks) {
        for (int passed = 0; passed < ticks; passed++) {
            if (ahead.isAllDone()) {
                return passed;
            }
            bus.tick(ahead);
        }
        return ahead.isAllDone() ? ticks : -1;
    }

    public int nobodyIn(int ticks) throws IllegalArgumentException {
        checkTicks(ticks);
        ahead.copyFrom(now);
        bus.pass(ahead, ticks);
        return sum(ahead.nobodyByCause) - sum(now.nobodyByCause);
    }

    public int bestNoise(int ticks) throws IllegalArgumentException {
        checkTicks(ticks);
        int best = -1;
        int least = ticks;
        for (int noise = 0; noise <= MOST_SETTING[NOISE]; noise += 10) {
            ahead.copyFrom(now);
            ahead.settings[NOISE] = noise;
            // A later noise must be better than the best so far, so more ticks than its need no look.
            int needed = ticksUntilDone(least);
            if (needed >= 0 && (best < 0 || needed < least)) {
                best = noise;
                least = needed;
            }
        }
        return best;
    }

    public int wouldWait(int from, int to) throws IllegalArgumentException {
        checkWay(from, to);
        if (now.callCount >= MOST_CALLS) {
            return -1;
        }
        ahead.copyFrom(now);
        int call = ahead.addCall(ahead.time, from, to);
        return ticksUntilAboard(call, MOST_TICKS) < 0 ? -1 : ahead.waitTime(call);
    }

    public int bestPatience(int ticks) throws IllegalArgumentException {
        checkTicks(ticks);
        int best = -1;
        int least = NEVER;
        for (int patience = LEAST_SETTING[PATIENCE]; patience <= MOST_SETTING[PATIENCE]; patience++) {
            ahead.copyFrom(now);
            ahead.settings[PATIENCE] = patience;
            int longest = longestBehind(ticks, least);
            if (longest < least) {
                best = patience;
                least = longest;
            }
        }
        return best;
    }

    /** The longest wait behind some ticks. Waits never shrink, so ticks behind a wait that is enough are left out. */
    private int longestBehind(int ticks, int enough) {
        int longest = ahead.greatestWait();
        for (int passed = 0; passed < ticks && longest < enough && !ahead.isAllDone(); passed++) {
            bus.tick(ahead);
            longest = ahead.greatestWait();
        }
        return longest;
    }

    // ---- the output

    public int printCar(int car) throws IndexOutOfBoundsException {
        checkCar(car);
        outputLength = Math.min(now.floors, output.length);
        for (int floor = 0; floor < outputLength; floor++) {
            output[floor] = now.shaftSign(now.cars[car], floor);
        }
        return outputLength;
    }

    public int outputByte(int index) {
        if (index < 0 || index >= outputLength) {
            return -1;
        }
        return output[index];
    }

    // ---- the classes inside

    private static final class Call {
        int from;
        int to;
        int madeAt;
        int state;
        int takenBy;
        int aboardAt;
        int doneAt;
        int rounds;
        int claimedBy;
        int claimedAt;
        int announcedAt;

        void start(int time, int fromFloor, int toFloor) {
            from = fromFloor;
            to = toFloor;
            madeAt = time;
            state = COMING;
            takenBy = -1;
            aboardAt = -1;
            doneAt = -1;
            rounds = 0;
            claimedBy = -1;
            claimedAt = -1;
            announcedAt = -1;
        }

        void copyFrom(Call other) {
            from = other.from;
            to = other.to;
            madeAt = other.madeAt;
            state = other.state;
            takenBy = other.takenBy;
            aboardAt = other.aboardAt;
            doneAt = other.doneAt;
            rounds = other.rounds;
            claimedBy = other.claimedBy;
            claimedAt = other.claimedAt;
            announcedAt = other.announcedAt;
        }
    }

    /** A car with what it knows; sets of calls are bit masks. */
    private static final class Car {
        int floor;
        int capacity;
        int door;
        boolean stopped;
        boolean jammed;
        int floorsGone;
        int stops;
        int stopsForNobody;
        int heldCalls;
        int aboardCalls;
        final int[] ownCosts = new int[MOST_CALLS];
        final int[] decideAt = new int[MOST_CALLS];
        final int[] notedBids = new int[MOST_CALLS * MOST_CARS];
        final int[] lostCalls = new int[KINDS];

        void start(int atFloor, int people) {
            floor = atFloor;
            capacity = people;
            door = 0;
            stopped = false;
            jammed = false;
            floorsGone = 0;
            stops = 0;
            stopsForNobody = 0;
            heldCalls = 0;
            aboardCalls = 0;
            for (int call = 0; call < MOST_CALLS; call++) {
                ownCosts[call] = -1;
                decideAt[call] = -1;
                dropBids(call);
            }
            for (int kind = 0; kind < KINDS; kind++) {
                lostCalls[kind] = 0;
            }
        }

        void copyFrom(Car other) {
            floor = other.floor;
            capacity = other.capacity;
            door = other.door;
            stopped = other.stopped;
            jammed = other.jammed;
            floorsGone = other.floorsGone;
            stops = other.stops;
            stopsForNobody = other.stopsForNobody;
            heldCalls = other.heldCalls;
            aboardCalls = other.aboardCalls;
            System.arraycopy(other.ownCosts, 0, ownCosts, 0, MOST_CALLS);
            System.arraycopy(other.decideAt, 0, decideAt, 0, MOST_CALLS);
            System.arraycopy(other.notedBids, 0, notedBids, 0, MOST_CALLS * MOST_CARS);
            System.arraycopy(other.lostCalls, 0, lostCalls, 0, KINDS);
        }

        boolean isHolding(int call) {
            return (heldCalls >>> call & 1) != 0;
        }

        boolean isCarrying(int call) {
            return (aboardCalls >>> call & 1) != 0;
        }

        boolean hasRoom() {
            return Integer.bitCount(aboardCalls) < capacity;
        }

        boolean lost(int call, int kind) {
            return (lostCalls[kind] >>> call & 1) != 0;
        }

        int knownOwnCost(int call) {
            return isHolding(call) || decideAt[call] >= 0 ? ownCosts[call] : -1;
        }

        int notedBid(int call, int other) {
            return notedBids[call * MOST_CARS + other];
        }

        void noteBid(int call, int other, int cost) {
            notedBids[call * MOST_CARS + other] = cost;
        }

        void dropBids(int call) {
            for (int other = 0; other < MOST_CARS; other++) {
                noteBid(call, other, -1);
            }
        }

        void dropCall(int call) {
            heldCalls &= ~(1 << call);
        }

        void dropDecisions() {
            for (int call = 0; call < MOST_CALLS; call++) {
                decideAt[call] = -1;
            }
        }

        void hearReport(int call) {
            decideAt[call] = -1;
            dropCall(call);
        }

        /** Why the car stopped for nobody at a call. */
        int causeOf(int call) {
            if (lost(call, REPORT)) {
                return 1;
            }
            if (lost(call, CLAIM)) {
                return 2;
            }
            return lost(call, BID) ? 3 : 4;
        }
    }

    /** Messages in the order in which they were sent. */
    private static final class Messages {
        int size;
        final int[] senders = new int[MOST_MESSAGES];
        final int[] kinds = new int[MOST_MESSAGES];
        final int[] calls = new int[MOST_MESSAGES];
        final int[] costs = new int[MOST_MESSAGES];

        void append(int sender, int kind, int call, int cost) {
            if (size < MOST_MESSAGES) {
                senders[size] = sender;
                kinds[size] = kind;
                calls[size] = call;
                costs[size] = cost;
                size++;
            }
        }

        void copyFrom(Messages other) {
            size = other.size;
            System.arraycopy(other.senders, 0, senders, 0, size);
            System.arraycopy(other.kinds, 0, kinds, 0, size);
            System.arraycopy(other.calls, 0, calls, 0, size);
            System.arraycopy(other.costs, 0, costs, 0, size);
        }
    }

    /** All that is undone, saved and copied for a look into the future. */
    private static final class Lifts {
        int floors;
        int carCount;
        int callCount;
        int time;
        int seed;
        final int[] settings = new int[SETTINGS];
        final Car[] cars = new Car[MOST_CARS];
        final Call[] calls = new Call[MOST_CALLS];
        final Messages sent = new Messages();
        final int[] sentByKind = new int[KINDS];
        final int[] lostByKind = new int[KINDS];
        final int[] nobodyByCause = new int[CAUSES + 1];

        Lifts() {
            for (int car = 0; car < MOST_CARS; car++) {
                cars[car] = new Car();
            }
            for (int call = 0; call < MOST_CALLS; call++) {
                calls[call] = new Call();
            }
        }

        void clear(int floorCount) {
            floors = floorCount;
            carCount = 0;
            callCount = 0;
            time = 0;
            seed = FIRST_SEED;
            System.arraycopy(FIRST_SETTING, 0, settings, 0, SETTINGS);
            sent.size = 0;
            for (int kind = 0; kind < KINDS; kind++) {
                sentByKind[kind] = 0;
                lostByKind[kind] = 0;
            }
            for (int cause = 0; cause <= CAUSES; cause++) {
                nobodyByCause[cause] = 0;
            }
        }

        void copyFrom(Lifts other) {
            floors = other.floors;
            carCount = other.carCount;
            callCount = other.callCount;
            time = other.time;
            seed = other.seed;
            System.arraycopy(other.settings, 0, settings, 0, SETTINGS);
            for (int car = 0; car < carCount; car++) {
                cars[car].copyFrom(other.cars[car]);
            }
            for (int call = 0; call < callCount; call++) {
                calls[call].copyFrom(other.calls[call]);
            }
            sent.copyFrom(other.sent);
            System.arraycopy(other.sentByKind, 0, sentByKind, 0, KINDS);
            System.arraycopy(other.lostByKind, 0, lostByKind, 0, KINDS);
            System.arraycopy(other.nobodyByCause, 0, nobodyByCause, 0, CAUSES + 1);
        }

        void addCar(int floor, int capacity) {
            if (carCount < MOST_CARS) {
                cars[carCount].start(floor, capacity);
                carCount++;
            }
        }

        int addCall(int at, int from, int to) {
            if (callCount >= MOST_CALLS) {
                return -1;
            }
            calls[callCount].start(at, from, to);
            callCount++;
            return callCount - 1;
        }

        void send(int sender, int kind, int call, int cost) {
            sent.append(sender, kind, call, cost);
            sentByKind[kind]++;
        }

        int drawn() {
            seed = 1103515245 * seed + 12345;
            return (seed >>> 16) % 100;
        }

        boolean isJammedCar(int who) {
            return who >= 0 && who < carCount && cars[who].jammed;
        }

        int costFrom(int car, int floor) {
            Car asked = cars[car];
            int load = Integer.bitCount(asked.heldCalls) + Integer.bitCount(asked.aboardCalls);
            return Math.abs(asked.floor - floor) + settings[WEIGHT] * load;
        }

        int waitTime(int call) {
            Call asked = calls[call];
            if (asked.state == COMING) {
                return -1;
            }
            return (asked.state == WAITING ? time : asked.aboardAt) - asked.madeAt;
        }

        int greatestWait() {
            int longest = -1;
            for (int call = 0; call < callCount; call++) {
                longest = Math.max(longest, waitTime(call));
            }
            return longest;
        }

        int lateCalls() {
            int late = 0;
            for (int call = 0; call < callCount; call++) {
                if (waitTime(call) > settings[BOUND]) {
                    late++;
                }
            }
            return late;
        }

        int countInState(int state) {
            int number = 0;
            for (int call = 0; call < callCount; call++) {
                if (calls[call].state == state) {
                    number++;
                }
            }
            return number;
        }

        boolean isAllDone() {
            return countInState(DONE) == callCount;
        }

        int madeFrom(int floor) {
            int number = 0;
            for (int call = 0; call < callCount; call++) {
                if (calls[call].state != COMING && calls[call].from == floor) {
                    number++;
                }
            }
            return number;
        }

        int holders(int call) {
            int number = 0;
            for (int car = 0; car < carCount; car++) {
                if (cars[car].isHolding(call)) {
                    number++;
                }
            }
            return number;
        }

        /** The nearest floor to which a car wants, the lower one on a tie; -1 without any. */
        int nearestGoal(Car car) {
            boolean room = car.hasRoom();
            int best = -1;
            for (int call = 0; call < callCount; call++) {
                if (car.isCarrying(call)) {
                    best = nearer(car.floor, calls[call].to, best);
                }
                if (room && car.isHolding(call)) {
                    best = nearer(car.floor, calls[call].from, best);
                }
            }
            return best;
        }

        private static int nearer(int here, int floor, int best) {
            int gain = Math.abs(best - here) - Math.abs(floor - here);
            return best < 0 || gain > 0 || (gain == 0 && floor < best) ? floor : best;
        }

        int shaftSign(Car car, int floor) {
            if (car.floor == floor) {
                return 'O';
            }
            int sign = '.';
            for (int call = 0; call < callCount; call++) {
                if (car.isCarrying(call) && calls[call].to == floor) {
                    return '+';
                }
                if (car.isHolding(call) && calls[call].from == floor) {
                    sign = '-';
                }
            }
            return sign;
        }
    }

    /** Lets ticks pass. */
    private static final class Bus {
        private final Messages arriving = new Messages();

        void pass(Lifts lifts, int ticks) {
            for (int passed = 0; passed < ticks; passed++) {
                tick(lifts);
            }
        }

        void tick(Lifts lifts) {
            arriving.copyFrom(lifts.sent);
            lifts.sent.size = 0;
            makeComing(lifts);
            deliver(lifts);
            announceAgain(lifts);
            for (int car = 0; car < lifts.carCount; car++) {
                decide(lifts, car);
            }
            for (int car = 0; car < lifts.carCount; car++) {
                act(lifts, car);
            }
            lifts.time++;
        }

        // Phase 1.
        private void makeComing(Lifts lifts) {
            for (int call = 0; call < lifts.callCount; call++) {
                Call made = lifts.calls[call];
                if (made.state == COMING && made.madeAt <= lifts.time) {
                    made.state = WAITING;
                    announce(lifts, call);
                }
            }
        }

        private void announce(Lifts lifts, int call) {
            lifts.calls[call].rounds++;
            lifts.calls[call].announcedAt = lifts.time;
            lifts.send(STATION, ANNOUNCEMENT, call, 0);
        }

        // Phase 2.
        private void deliver(Lifts lifts) {
            for (int index = 0; index < arriving.size; index++) {
                int sender = arriving.senders[index];
                for (int car = 0; car < lifts.carCount; car++) {
                    if (car != sender) {
                        deliverToCar(lifts, index, car);
                    }
                }
                if (sender != STATION) {
                    deliverToStation(lifts, index);
                }
            }
        }

        private void deliverToCar(Lifts lifts, int index, int car) {
            int call = arriving.calls[index];
            int kind = arriving.kinds[index];
            if (isLost(lifts, index, car)) {
                lifts.cars[car].lostCalls[kind] |= 1 << call;
                return;
            }
            switch (kind) {
                case ANNOUNCEMENT:
                    hearAnnouncement(lifts, car, call);
                    break;
                case BID:
                    lifts.cars[car].noteBid(call, arriving.senders[index], arriving.costs[index]);
                    break;
                case CLAIM:
                    hearClaim(lifts, index, car);
                    break;
                default:
                    lifts.cars[car].hearReport(call);
                    break;
            }
        }

        private void deliverToStation(Lifts lifts, int index) {
            if (!isLost(lifts, index, STATION) && arriving.kinds[index] == CLAIM) {
                Call claimed = lifts.calls[arriving.calls[index]];
                claimed.claimedBy = arriving.senders[index];
                claimed.claimedAt = lifts.time;
            }
        }

        /** Draws for one receiver, also where the message is lost anyway: the seed must go on. */
        private boolean isLost(Lifts lifts, int index, int receiver) {
            boolean lost = lifts.drawn() < lifts.settings[NOISE]
                || lifts.isJammedCar(receiver)
                || lifts.isJammedCar(arriving.senders[index]);
            if (lost) {
                lifts.lostByKind[arriving.kinds[index]]++;
            }
            return lost;
        }

        private void hearAnnouncement(Lifts lifts, int car, int call) {
            Car hearer = lifts.cars[car];
            if (hearer.stopped) {
                return;
            }
            if (hearer.isHolding(call)) {
                lifts.send(car, CLAIM, call, hearer.ownCosts[call]);
            } else if (lifts.calls[call].state == WAITING) {
                hearer.dropBids(call);
                hearer.ownCosts[call] = lifts.costFrom(car, lifts.calls[call].from);
                hearer.decideAt[call] = lifts.time + 2;
                lifts.send(car, BID, call, hearer.ownCosts[call]);
            }
        }

        private void hearClaim(Lifts lifts, int index, int car) {
            Car hearer = lifts.cars[car];
            int call = arriving.calls[index];
            hearer.decideAt[call] = -1;
            if (isBefore(arriving.costs[index], arriving.senders[index], hearer.ownCosts[call], car)) {
                hearer.dropCall(call);
            }
        }

        private static boolean isBefore(int cost, int car, int otherCost, int otherCar) {
            return cost < otherCost || (cost == otherCost && car < otherCar);
        }

        // Phase 3.
        private void announceAgain(Lifts lifts) {
            int patience = lifts.settings[PATIENCE];
            for (int call = 0; call < lifts.callCount; call++) {
                Call asked = lifts.calls[call];
                if (asked.state == WAITING) {
                    if (asked.claimedBy >= 0 && lifts.time - asked.claimedAt >= 10 * patience) {
                        asked.claimedBy = -1;
                    }
                    if (asked.claimedBy < 0 && lifts.time - asked.announcedAt >= patience) {
                        announce(lifts, call);
                    }
                }
            }
        }

        // Phase 4. A stopped car has nothing left to decide: stopping it drops all its decisions.
        private void decide(Lifts lifts, int car) {
            Car decider = lifts.cars[car];
            for (int call = 0; call < lifts.callCount; call++) {
                if (decider.decideAt[call] == lifts.time) {
                    decider.decideAt[call] = -1;
                    if (lifts.calls[call].state == WAITING && hasBestBid(lifts, car, call)) {
                        decider.heldCalls |= 1 << call;
                        lifts.send(car, CLAIM, call, decider.ownCosts[call]);
                    }
                }
            }
        }

        private boolean hasBestBid(Lifts lifts, int car, int call) {
            Car decider = lifts.cars[car];
            for (int other = 0; other < lifts.carCount; other++) {
                int bid = decider.notedBid(call, other);
                if (bid >= 0 && isBefore(bid, other, decider.ownCosts[call], car)) {
                    return false;
                }
            }
            return true;
        }

        // Phase 5.
        private void act(Lifts lifts, int car) {
            Car actor = lifts.cars[car];
            if (actor.stopped) {
                return;
            }
            if (actor.door > 0) {
                actor.door--;
            } else if (wantsToStop(lifts, actor)) {
                makeStop(lifts, car);
            } else {
                move(lifts, actor);
            }
        }

        private boolean wantsToStop(Lifts lifts, Car car) {
            boolean room = car.hasRoom();
            for (int call = 0; call < lifts.callCount; call++) {
                Call asked = lifts.calls[call];
                if (car.isCarrying(call) && asked.to == car.floor) {
                    return true;
                }
                if (car.isHolding(call) && asked.from == car.floor && (room || asked.state != WAITING)) {
                    return true;
                }
            }
            return false;
        }

        private void makeStop(Lifts lifts, int car) {
            Car stopping = lifts.cars[car];
            letOff(lifts, stopping);
            for (int call = 0; call < lifts.callCount; call++) {
                if (stopping.isHolding(call) && lifts.calls[call].from == stopping.floor) {
                    if (lifts.calls[call].state != WAITING) {
                        stopForNobody(lifts, stopping, call);
                    } else if (stopping.hasRoom()) {
                        takeAboard(lifts, car, call);
                    }
                }
            }
            stopping.stops++;
            stopping.door = lifts.settings[DOOR];
        }

        private void letOff(Lifts lifts, Car car) {
            for (int call = 0; call < lifts.callCount; call++) {
                if (car.isCarrying(call) && lifts.calls[call].to == car.floor) {
                    lifts.calls[call].state = DONE;
                    lifts.calls[call].doneAt = lifts.time;
                    car.aboardCalls &= ~(1 << call);
                }
            }
        }

        private void stopForNobody(Lifts lifts, Car car, int call) {
            car.dropCall(call);
            car.stopsForNobody++;
            lifts.nobodyByCause[car.causeOf(call)]++;
        }

        private void takeAboard(Lifts lifts, int car, int call) {
            Call taken = lifts.calls[call];
            taken.state = ABOARD;
            taken.takenBy = car;
            taken.aboardAt = lifts.time;
            lifts.cars[car].aboardCalls |= 1 << call;
            lifts.cars[car].dropCall(call);
            lifts.send(car, REPORT, call, 0);
        }

        private void move(Lifts lifts, Car car) {
            int target = lifts.nearestGoal(car);
            if (target >= 0 && target != car.floor) {
                car.floor += target > car.floor ? 1 : -1;
                car.floorsGone++;
            }
        }
    }

    /** The states before the latest changes, in a ring. */
    private static final class History {
        int size;
        private int next;
        private final Lifts[] past = new Lifts[MOST_CHANGES];

        History() {
            for (int index = 0; index < MOST_CHANGES; index++) {
                past[index] = new Lifts();
            }
        }

        void clear() {
            size = 0;
        }

        void remember(Lifts lifts) {
            past[next].copyFrom(lifts);
            next = (next + 1) % MOST_CHANGES;
            size = Math.min(size + 1, MOST_CHANGES);
        }

        void takeBack(Lifts lifts) {
            if (size > 0) {
                next = (next + MOST_CHANGES - 1) % MOST_CHANGES;
                lifts.copyFrom(past[next]);
                size--;
            }
        }
    }

    /** Reads a setup text from left to right up to its first error. */
    private static final class SetupReader {
        private static final int END = 0;
        private static final int WORD = 1;
        private static final int NUMBER = 2;
        private static final int SEMICOLON = 3;
        private static final int NO_TOKEN = 4;
        private static final int SEED = SETTINGS;
        private static final int MOST_DIGITS = 4;

        int error;
        int errorAt;
        private int[] text = new int[0];
        private int length;
        private int position;
        private int tokenKind;
        private int tokenStart;
        private int tokenValue;
        private int settingsSeen;

        boolean read(int[] bytes, int byteCount, Lifts lifts) {
            text = bytes;
            length = Math.max(0, Math.min(byteCount, bytes.length));
            position = 0;
            settingsSeen = 0;
            error = NO_ERROR;
            errorAt = -1;
            if (!readFloors(lifts)) {
                return false;
            }
            // No statement is empty, so there are fewer of them than bytes.
            for (int statements = 0; statements <= length; statements++) {
                nextToken();
                if (tokenKind == END) {
                    return lifts.carCount > 0 || fail(NO_CAR);
                }
                if (!readStatement(lifts)) {
                    return false;
                }
            }
            return fail(SYNTAX);
        }

        private boolean readFloors(Lifts lifts) {
            nextToken();
            if (!isWord("floors")) {
                return fail(SYNTAX);
            }
            if (!readNumber(2, MOST_FLOORS)) {
                return false;
            }
            lifts.clear(tokenValue);
            return readSemicolon();
        }

        private boolean readStatement(Lifts lifts) {
            if (isWord("car")) {
                return readCar(lifts);
            }
            if (isWord("call")) {
                return readCall(lifts);
            }
            int which = settingOfWord();
            return which < 0 ? fail(SYNTAX) : readSetting(lifts, which);
        }

        private boolean readCar(Lifts lifts) {
            if (lifts.carCount >= MOST_CARS) {
                return fail(MISPLACED);
            }
            if (!readNumber(0, lifts.floors - 1)) {
                return false;
            }
            int floor = tokenValue;
            if (!readNumber(1, MOST_CAPACITY)) {
                return false;
            }
            lifts.addCar(floor, tokenValue);
            return readSemicolon();
        }

        private boolean readCall(Lifts lifts) {
            if (lifts.callCount >= MOST_CALLS) {
                return fail(MISPLACED);
            }
            if (!readNumber(0, LATEST_CALL)) {
                return false;
            }
            int time = tokenValue;
            if (!readNumber(0, lifts.floors - 1)) {
                return false;
            }
            int from = tokenValue;
            if (!readNumber(0, lifts.floors - 1)) {
                return false;
            }
            if (tokenValue == from) {
                return fail(OUT_OF_RANGE);
            }
            lifts.addCall(time, from, tokenValue);
            return readSemicolon();
        }

        private boolean readSetting(Lifts lifts, int which) {
            if ((settingsSeen >>> which & 1) != 0) {
                return fail(MISPLACED);
            }
            settingsSeen |= 1 << which;
            if (which == SEED) {
                if (!readNumber(0, MOST_SEED)) {
                    return false;
                }
                lifts.seed = tokenValue;
            } else {
                if (!readNumber(LEAST_SETTING[which], MOST_SETTING[which])) {
                    return false;
                }
                lifts.settings[which] = tokenValue;
            }
            return readSemicolon();
        }

        /** The number of the setting that the token names, SEED for the seed, -1 for another token. */
        private int settingOfWord() {
            if (isWord("noise")) {
                return NOISE;
            }
            if (isWord("patience")) {
                return PATIENCE;
            }
            if (isWord("weight")) {
                return WEIGHT;
            }
            if (isWord("door")) {
                return DOOR;
            }
            if (isWord("bound")) {
                return BOUND;
            }
            return isWord("seed") ? SEED : -1;
        }

        private boolean readNumber(int least, int most) {
            nextToken();
            if (tokenKind != NUMBER) {
                return fail(SYNTAX);
            }
            if (tokenValue < least || tokenValue > most) {
                return fail(OUT_OF_RANGE);
            }
            return true;
        }

        private boolean readSemicolon() {
            nextToken();
            return tokenKind == SEMICOLON || fail(SYNTAX);
        }

        /** Reports an error at the token; always false. */
        private boolean fail(int code) {
            error = code;
            errorAt = tokenStart;
            return false;
        }

        private boolean isWord(String word) {
            if (tokenKind != WORD || position - tokenStart != word.length()) {
                return false;
            }
            for (int index = 0; index < word.length(); index++) {
                if (text[tokenStart + index] != word.charAt(index)) {
                    return false;
                }
            }
            return true;
        }

        private void nextToken() {
            while (position < length && isBlank(text[position])) {
                position++;
            }
            tokenStart = position;
            if (position >= length) {
                tokenKind = END;
            } else if (isLetter(text[position])) {
                skipLetters();
            } else if (isDigit(text[position])) {
                skipDigits();
            } else {
                tokenKind = text[position] == ';' ? SEMICOLON : NO_TOKEN;
                position++;
            }
        }

        private void skipLetters() {
            tokenKind = WORD;
            while (position < length && isLetter(text[position])) {
                position++;
            }
        }

        private void skipDigits() {
            tokenValue = 0;
            while (position < length && isDigit(text[position])) {
                if (position - tokenStart < MOST_DIGITS) {
                    tokenValue = 10 * tokenValue + text[position] - '0';
                }
                position++;
            }
            tokenKind = position - tokenStart <= MOST_DIGITS ? NUMBER : NO_TOKEN;
        }

        private static boolean isBlank(int sign) {
            return sign == ' ' || sign == '\n';
        }

        private static boolean isLetter(int sign) {
            return sign >= 'a' && sign <= 'z';
        }

        private static boolean isDigit(int sign) {
            return sign >= '0' && sign <= '9';
        }
    }
}
