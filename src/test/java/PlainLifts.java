import java.util.ArrayDeque;
import java.util.ArrayList;
import java.util.Arrays;
import java.util.Collections;
import java.util.Comparator;
import java.util.Deque;
import java.util.HashSet;
import java.util.List;
import java.util.Map;
import java.util.NoSuchElementException;
import java.util.Set;
import java.util.TreeMap;
import java.util.TreeSet;
import java.util.function.Predicate;
import java.util.stream.Collectors;
import java.util.stream.IntStream;
import java.util.stream.Stream;

/** A second, slow reading of the document, written apart from BusLifts, to compare answers with. */
public final class PlainLifts {
    private static final int STATION = 99;
    private static final List<String> NAMES = List.of("noise", "patience", "weight", "door", "bound", "seed");
    private static final int[][] RANGES = {{0, 90}, {3, 50}, {0, 20}, {0, 5}, {1, 999}, {0, 9999}};

    record Message(int sender, int kind, int call, int cost) { }

    record Bid(int cost, int car) implements Comparable<Bid> {
        @Override
        public int compareTo(Bid other) {
            return Comparator.comparingInt(Bid::cost).thenComparingInt(Bid::car).compare(this, other);
        }
    }

    static final class Person implements Cloneable {
        int number;
        int from;
        int to;
        int made;
        String state = "coming";
        int car = -1;
        int boarded = -1;
        int left = -1;
        int rounds;
        int announced = -1;
        int claimant = -1;
        int claimed = -1;

        boolean is(String asked) {
            return state.equals(asked);
        }

        boolean cameAboard() {
            return is("aboard") || is("done");
        }

        Person copy() {
            try {
                return (Person) clone();
            } catch (CloneNotSupportedException never) {
                throw new AssertionError(never);
            }
        }
    }

    static final class Lift {
        int number;
        int floor;
        int capacity;
        int door;
        boolean stopped;
        boolean jammed;
        int gone;
        int stops;
        int forNobody;
        final Map<Integer, Integer> holding = new TreeMap<>();
        final Map<Integer, Integer> pendingCost = new TreeMap<>();
        final Map<Integer, Integer> pendingTime = new TreeMap<>();
        final Map<Integer, Map<Integer, Integer>> bids = new TreeMap<>();
        final Set<List<Integer>> lost = new HashSet<>();

        Lift copy() {
            Lift other = new Lift();
            other.number = number;
            other.floor = floor;
            other.capacity = capacity;
            other.door = door;
            other.stopped = stopped;
            other.jammed = jammed;
            other.gone = gone;
            other.stops = stops;
            other.forNobody = forNobody;
            other.holding.putAll(holding);
            other.pendingCost.putAll(pendingCost);
            other.pendingTime.putAll(pendingTime);
            bids.forEach((call, noted) -> other.bids.put(call, new TreeMap<>(noted)));
            other.lost.addAll(lost);
            return other;
        }

        void undecided(int call) {
            pendingCost.remove(call);
            pendingTime.remove(call);
        }

        int own(int call) {
            return holding.containsKey(call) ? holding.get(call) : pendingCost.getOrDefault(call, -1);
        }
    }

    static final class World {
        int floors;
        int time;
        int seed = 1;
        int[] settings = {0, 6, 2, 1, 30};
        List<Lift> lifts = new ArrayList<>();
        List<Person> people = new ArrayList<>();
        List<Message> pending = new ArrayList<>();
        int[] sent = new int[4];
        int[] lost = new int[4];
        int[] causes = new int[5];

        World copy() {
            World other = new World();
            other.floors = floors;
            other.time = time;
            other.seed = seed;
            other.settings = settings.clone();
            lifts.forEach(lift -> other.lifts.add(lift.copy()));
            people.forEach(person -> other.people.add(person.copy()));
            other.pending.addAll(pending);
            other.sent = sent.clone();
            other.lost = lost.clone();
            other.causes = causes.clone();
            return other;
        }

        List<Person> aboard(Lift lift) {
            return people.stream().filter(p -> p.is("aboard") && p.car == lift.number).toList();
        }

        boolean room(Lift lift) {
            return aboard(lift).size() < lift.capacity;
        }

        int cost(Lift lift, int floor) {
            return Math.abs(lift.floor - floor) + settings[2] * (lift.holding.size() + aboard(lift).size());
        }

        void send(int sender, int kind, int call, int cost) {
            pending.add(new Message(sender, kind, call, cost));
            sent[kind]++;
        }

        void announce(Person person) {
            person.rounds++;
            person.announced = time;
            send(STATION, 0, person.number, -1);
        }

        boolean arrives(Message message, Lift receiver) {
            seed = seed * 1103515245 + 12345;
            int draw = (seed >>> 16) % 100;
            boolean gone = draw < settings[0];
            if (receiver != null && receiver.jammed) {
                gone = true;
            }
            if (message.sender != STATION && lifts.get(message.sender).jammed) {
                gone = true;
            }
            if (gone) {
                lost[message.kind]++;
                if (receiver != null) {
                    receiver.lost.add(List.of(message.call, message.kind));
                }
            }
            return !gone;
        }

        void hear(Message message, Lift lift) {
            Person person = people.get(message.call);
            int call = message.call;
            if (message.kind == 0) {
                if (!lift.stopped && lift.holding.containsKey(call)) {
                    send(lift.number, 2, call, lift.holding.get(call));
                } else if (!lift.stopped && person.is("waiting")) {
                    int cost = cost(lift, person.from);
                    lift.bids.remove(call);
                    lift.pendingCost.put(call, cost);
                    lift.pendingTime.put(call, time + 2);
                    send(lift.number, 1, call, cost);
                }
            } else if (message.kind == 1) {
                lift.bids.computeIfAbsent(call, none -> new TreeMap<>()).put(message.sender, message.cost);
            } else {
                lift.undecided(call);
                Integer own = lift.holding.get(call);
                if (own != null && (message.kind == 3
                    || new Bid(message.cost, message.sender).compareTo(new Bid(own, lift.number)) < 0)) {
                    lift.holding.remove(call);
                }
            }
        }

        void tick() {
            List<Message> arriving = pending;
            pending = new ArrayList<>();
            for (Person person : people) {
                if (person.is("coming") && person.made <= time) {
                    person.state = "waiting";
                    announce(person);
                }
            }
            for (Message message : arriving) {
                for (Lift lift : lifts) {
                    if (lift.number != message.sender && arrives(message, lift)) {
                        hear(message, lift);
                    }
                }
                if (message.sender != STATION && arrives(message, null) && message.kind == 2) {
                    people.get(message.call).claimant = message.sender;
                    people.get(message.call).claimed = time;
                }
            }
            for (Person person : people) {
                if (person.is("waiting")) {
                    if (person.claimant != -1 && time >= person.claimed + 10 * settings[1]) {
                        person.claimant = -1;
                    }
                    if (person.claimant == -1 && time >= person.announced + settings[1]) {
                        announce(person);
                    }
                }
            }
            lifts.forEach(this::decide);
            for (Lift lift : lifts) {
                if (!lift.stopped) {
                    act(lift);
                }
            }
            time++;
        }

        void decide(Lift lift) {
            for (int call : new ArrayList<>(lift.pendingTime.keySet())) {
                if (lift.pendingTime.get(call) == time) {
                    int own = lift.pendingCost.get(call);
                    lift.undecided(call);
                    Bid mine = new Bid(own, lift.number);
                    boolean best = lift.bids.getOrDefault(call, Map.of()).entrySet().stream()
                        .allMatch(bid -> mine.compareTo(new Bid(bid.getValue(), bid.getKey())) < 0);
                    if (people.get(call).is("waiting") && best) {
                        lift.holding.put(call, own);
                        send(lift.number, 2, call, own);
                    }
                }
            }
        }

        void act(Lift lift) {
            if (lift.door > 0) {
                lift.door--;
                return;
            }
            List<Person> leaving = aboard(lift).stream().filter(p -> p.to == lift.floor).toList();
            List<Person> here = lift.holding.keySet().stream().map(people::get)
                .filter(p -> p.from == lift.floor).toList();
            boolean canEnter = room(lift) || !leaving.isEmpty();
            if (!leaving.isEmpty() || here.stream().anyMatch(p -> !p.is("waiting") || canEnter)) {
                stop(lift, leaving, here);
                return;
            }
            int goal = goal(lift);
            if (goal >= 0) {
                lift.gone += Math.abs(Integer.signum(goal - lift.floor));
                lift.floor += Integer.signum(goal - lift.floor);
            }
        }

        void stop(Lift lift, List<Person> leaving, List<Person> here) {
            lift.stops++;
            lift.door = settings[3];
            for (Person person : leaving) {
                person.state = "done";
                person.left = time;
            }
            for (Person person : here) {
                if (!person.is("waiting")) {
                    lift.holding.remove(person.number);
                    lift.forNobody++;
                    int cause = IntStream.of(3, 2, 1)
                        .filter(kind -> lift.lost.contains(List.of(person.number, kind))).findFirst().orElse(0);
                    causes[4 - cause]++;
                } else if (room(lift)) {
                    person.state = "aboard";
                    person.car = lift.number;
                    person.boarded = time;
                    lift.holding.remove(person.number);
                    send(lift.number, 3, person.number, -1);
                }
            }
        }

        int goal(Lift lift) {
            Stream<Integer> wanted = aboard(lift).stream().map(p -> p.to);
            if (room(lift)) {
                wanted = Stream.concat(wanted, lift.holding.keySet().stream().map(call -> people.get(call).from));
            }
            return wanted.min(Comparator.<Integer>comparingInt(f -> Math.abs(f - lift.floor))
                .thenComparingInt(f -> f)).orElse(-1);
        }

        int wait(Person person) {
            return person.is("coming") ? -1 : (person.is("waiting") ? time : person.boarded) - person.made;
        }

        Stream<Person> made() {
            return people.stream().filter(p -> !p.is("coming"));
        }

        int late() {
            return (int) made().filter(p -> wait(p) > settings[4]).count();
        }

        int longest() {
            return made().mapToInt(this::wait).max().orElse(-1);
        }

        boolean finished() {
            return people.stream().allMatch(p -> p.is("done"));
        }

        int until(Predicate<World> asked, int ticks) {
            for (int passed = 0;; passed++) {
                if (asked.test(this)) {
                    return passed;
                }
                if (passed == ticks) {
                    return -1;
                }
                tick();
            }
        }

        int add(int from, int to, int made) {
            Person person = new Person();
            person.number = people.size();
            person.from = from;
            person.to = to;
            person.made = made;
            people.add(person);
            return person.number;
        }

        void addLift(int floor, int capacity) {
            Lift lift = new Lift();
            lift.number = lifts.size();
            lift.floor = floor;
            lift.capacity = capacity;
            lifts.add(lift);
        }
    }

    private World world = new World();
    private final Deque<World> undoable = new ArrayDeque<>();
    private World kept;
    private String input = "";
    private String output = "";
    private int error;
    private int errorAt = -1;

    public PlainLifts() {
        world.floors = 2;
        world.addLift(0, 1);
    }

    // ---- the setup, read by a list of tokens

    record Token(String text, int at) { }

    static final class Wrong extends Exception {
        private static final long serialVersionUID = 1;
        final int code;
        final int at;

        Wrong(int code, int at) {
            super("wrong");
            this.code = code;
            this.at = at;
        }
    }

    private static List<Token> tokens(String text) {
        List<Token> tokens = new ArrayList<>();
        var matcher = java.util.regex.Pattern.compile("[a-z]+|[0-9]+|[^ \n]").matcher(text);
        while (matcher.find()) {
            tokens.add(new Token(matcher.group(), matcher.start()));
        }
        tokens.add(new Token("", text.length()));
        return tokens;
    }

    private static int number(Token token, int least, int most) throws Wrong {
        if (!token.text.matches("[0-9]{1,4}")) {
            throw new Wrong(1, token.at);
        }
        int value = Integer.parseInt(token.text);
        if (value < least || value > most) {
            throw new Wrong(2, token.at);
        }
        return value;
    }

    private static World read(String text) throws Wrong {
        Deque<Token> left = new ArrayDeque<>(tokens(text));
        World read = new World();
        Set<String> seen = new HashSet<>();
        boolean first = true;
        while (first || !left.peek().text.isEmpty()) {
            Token word = left.poll();
            if (first != word.text.equals("floors")) {
                throw new Wrong(1, word.at);
            }
            int named = NAMES.indexOf(word.text);
            if (first) {
                read.floors = number(left.poll(), 2, 30);
            } else if (word.text.equals("car")) {
                if (read.lifts.size() == 4) {
                    throw new Wrong(3, word.at);
                }
                int floor = number(left.poll(), 0, read.floors - 1);
                read.addLift(floor, number(left.poll(), 1, 8));
            } else if (word.text.equals("call")) {
                if (read.people.size() == 24) {
                    throw new Wrong(3, word.at);
                }
                int time = number(left.poll(), 0, 999);
                int from = number(left.poll(), 0, read.floors - 1);
                Token last = left.peek();
                int to = number(left.poll(), 0, read.floors - 1);
                if (from == to) {
                    throw new Wrong(2, last.at);
                }
                read.add(from, to, time);
            } else if (named >= 0) {
                if (!seen.add(word.text)) {
                    throw new Wrong(3, word.at);
                }
                int value = number(left.poll(), RANGES[named][0], RANGES[named][1]);
                if (named == 5) {
                    read.seed = value;
                } else {
                    read.settings[named] = value;
                }
            } else {
                throw new Wrong(1, word.at);
            }
            Token end = left.poll();
            if (!end.text.equals(";")) {
                throw new Wrong(1, end.at);
            }
            first = false;
        }
        if (read.lifts.isEmpty()) {
            throw new Wrong(4, text.length());
        }
        return read;
    }

    public int appendInput(int a, int b, int c, int d, int e) {
        if (input.length() + 20 > 700) {
            return -1;
        }
        StringBuilder text = new StringBuilder(input);
        for (int word : new int[] {a, b, c, d, e}) {
            for (byte sign : java.nio.ByteBuffer.allocate(4).putInt(word).array()) {
                text.append((char) (sign & 255));
            }
        }
        input = text.toString();
        return input.length();
    }

    public boolean truncateInput(int length) {
        if (length < 0 || length > input.length()) {
            return false;
        }
        input = input.substring(0, length);
        return true;
    }

    public int loadLifts() {
        String text = input;
        input = "";
        try {
            world = read(text);
        } catch (Wrong wrong) {
            error = wrong.code;
            errorAt = wrong.at;
            return -1;
        }
        error = 0;
        errorAt = -1;
        undoable.clear();
        kept = null;
        return world.lifts.size();
    }

    public int errorCode() {
        return error;
    }

    public int errorOffset() {
        return errorAt;
    }

    // ---- questions

    private Lift lift(int car) {
        if (car < 0 || car >= world.lifts.size()) {
            throw new IndexOutOfBoundsException();
        }
        return world.lifts.get(car);
    }

    private Person person(int call) {
        if (call < 0 || call >= world.people.size()) {
            throw new IndexOutOfBoundsException();
        }
        return world.people.get(call);
    }

    private static void range(int value, int least, int most) {
        if (value < least || value > most) {
            throw new IllegalArgumentException();
        }
    }

    private int mask(Predicate<Person> asked) {
        return world.people.stream().filter(asked).mapToInt(p -> 1 << p.number).sum();
    }

    private int holders(Person person) {
        return (int) world.lifts.stream().filter(lift -> lift.holding.containsKey(person.number)).count();
    }

    private int inState(String state) {
        return (int) world.people.stream().filter(p -> p.is(state)).count();
    }

    public int count(int what) {
        range(what, 0, 13);
        return new int[] {world.floors, world.lifts.size(), world.people.size(), world.time, world.settings[0],
            world.settings[1], world.settings[2], world.settings[3], world.settings[4], world.seed,
            inState("waiting"), inState("done"), world.pending.size(), undoable.size()}[what];
    }

    public int car(int car, int what) {
        Lift lift = lift(car);
        range(what, 0, 9);
        return new int[] {lift.floor, lift.capacity, lift.door, lift.holding.size(), world.aboard(lift).size(),
            lift.stopped ? 1 : 0, lift.jammed ? 1 : 0, lift.gone, lift.stops, lift.forNobody}[what];
    }

    public int call(int call, int what) {
        Person p = person(call);
        range(what, 0, 10);
        return new int[] {p.from, p.to, p.made, List.of("coming", "waiting", "aboard", "done").indexOf(p.state), p.car,
            p.boarded, p.left, p.rounds, p.claimant, holders(p), p.announced}[what];
    }

    public int waitOf(int call) {
        return world.wait(person(call));
    }

    public boolean holds(int car, int call) {
        return lift(car).holding.containsKey(person(call).number);
    }

    public int ownCost(int car, int call) {
        return lift(car).own(person(call).number);
    }

    public int decides(int car, int call) {
        return lift(car).pendingTime.getOrDefault(person(call).number, -1);
    }

    public int noted(int car, int call, int other) {
        return lift(car).bids.getOrDefault(person(call).number, Map.of()).getOrDefault(lift(other).number, -1);
    }

    public int costNow(int car, int call) {
        return world.cost(lift(car), person(call).from);
    }

    public int held(int car, int index) {
        List<Integer> held = new ArrayList<>(lift(car).holding.keySet());
        if (index < 0 || index >= held.size()) {
            throw new NoSuchElementException();
        }
        return held.get(index);
    }

    public int goal(int car) {
        return world.goal(lift(car));
    }

    public int messages(int kind, boolean lost) {
        range(kind, -1, 3);
        int[] asked = lost ? world.lost : world.sent;
        return kind == -1 ? Arrays.stream(asked).sum() : asked[kind];
    }

    public boolean hasLost(int car, int call, int kind) {
        Lift lift = lift(car);
        Person person = person(call);
        range(kind, 0, 3);
        return lift.lost.contains(List.of(person.number, kind));
    }

    public int nobody(int cause) {
        range(cause, 1, 4);
        return world.causes[cause];
    }

    public int longestWait() {
        return world.longest();
    }

    public double meanWait() {
        return world.people.stream().filter(Person::cameAboard).mapToInt(world::wait).average().orElse(0.0);
    }

    public float lateShare() {
        long made = world.made().count();
        return made == 0 ? 0 : (float) world.late() / made;
    }

    public int doubles() {
        return mask(p -> holders(p) > 1);
    }

    public int orphans() {
        return mask(p -> p.is("waiting") && holders(p) == 0);
    }

    public int ride(int call) {
        Person person = person(call);
        return Math.max(person.from, person.to) - Math.min(person.from, person.to);
    }

    public int busiest() {
        return Collections.max(world.lifts, Comparator.<Lift>comparingInt(l -> l.gone)
            .thenComparing(l -> -l.number)).number;
    }

    public int fullestFloor() {
        Map<Integer, Long> floors = world.made().collect(
            Collectors.groupingBy(p -> p.from, TreeMap::new, Collectors.counting()));
        long most = floors.values().stream().mapToLong(n -> n).max().orElse(0);
        return floors.keySet().stream().filter(f -> floors.get(f) == most).findFirst().orElse(-1);
    }

    public int riders(int car) {
        Lift lift = lift(car);
        return mask(p -> p.is("aboard") && p.car == lift.number);
    }

    public int served(int car) {
        Lift lift = lift(car);
        return Integer.bitCount(mask(p -> p.cameAboard() && p.car == lift.number));
    }

    public double meanRide() {
        return world.people.stream().filter(p -> p.is("done")).mapToInt(p -> p.left - p.boarded).average().orElse(0.0);
    }

    public int knownBest(int car, int call) {
        Lift lift = lift(car);
        Person person = person(call);
        TreeSet<Bid> known = new TreeSet<>();
        lift.bids.getOrDefault(person.number, Map.of()).forEach((other, cost) -> known.add(new Bid(cost, other)));
        if (lift.own(person.number) >= 0) {
            known.add(new Bid(lift.own(person.number), car));
        }
        return known.isEmpty() ? -1 : known.first().car;
    }

    public int cheapest(int from) {
        range(from, 0, world.floors - 1);
        return world.lifts.stream().filter(l -> !l.stopped).map(l -> new Bid(world.cost(l, from), l.number))
            .min(Comparator.naturalOrder()).map(Bid::car).orElse(-1);
    }

    public int allRounds() {
        return world.people.stream().mapToInt(p -> p.rounds).sum();
    }

    public int claimLeft(int call) {
        Person p = person(call);
        return p.is("waiting") && p.claimant != -1 ? Math.max(0, p.claimed + 10 * world.settings[1] - world.time) : -1;
    }

    public int crowd(int floor, boolean up) {
        range(floor, 0, world.floors - 1);
        return Integer.bitCount(mask(p -> p.is("waiting") && p.from == floor && (up ? p.to > floor : p.to < floor)));
    }

    public double meanCost(int call) {
        int from = person(call).from;
        return world.lifts.stream().mapToInt(l -> world.cost(l, from)).average().orElseThrow();
    }

    public int waitsWithin(int low, int high) {
        return (int) world.made().mapToInt(world::wait).filter(wait -> low <= wait && wait <= high).count();
    }

    public int mostRounds() {
        return world.people.stream().filter(p -> p.rounds > 0)
            .max(Comparator.<Person>comparingInt(p -> p.rounds).thenComparing(p -> -p.number))
            .map(p -> p.number).orElse(-1);
    }

    // ---- the future

    private World future(int ticks) {
        range(ticks, 1, 500);
        return world.copy();
    }

    public int lateIn(int ticks) {
        World future = future(ticks);
        future.until(w -> false, ticks);
        return future.late();
    }

    public int aboardIn(int call, int ticks) {
        person(call);
        return future(ticks).until(w -> w.people.get(call).cameAboard(), ticks);
    }

    public int doneIn(int ticks) {
        return future(ticks).until(World::finished, ticks);
    }

    public int nobodyIn(int ticks) {
        World future = future(ticks);
        future.until(w -> false, ticks);
        return Arrays.stream(future.causes).sum() - Arrays.stream(world.causes).sum();
    }

    public int bestNoise(int ticks) {
        range(ticks, 1, 500);
        Map<Integer, Integer> found = new TreeMap<>();
        for (int noise = 90; noise >= 0; noise -= 10) {
            World future = world.copy();
            future.settings[0] = noise;
            int needed = future.until(World::finished, ticks);
            if (needed >= 0) {
                found.put(needed, noise);
            }
        }
        return found.isEmpty() ? -1 : found.values().iterator().next();
    }

    public int wouldWait(int from, int to) {
        range(from, 0, world.floors - 1);
        range(to, 0, world.floors - 1);
        range(from == to ? 1 : 0, 0, 0);
        if (world.people.size() == 24) {
            return -1;
        }
        World future = world.copy();
        Person person = future.people.get(future.add(from, to, future.time));
        return future.until(w -> person.cameAboard(), 500) < 0 ? -1 : person.boarded - person.made;
    }

    public int bestPatience(int ticks) {
        range(ticks, 1, 500);
        Map<Integer, Integer> found = new TreeMap<>();
        for (int patience = 50; patience >= 3; patience--) {
            World future = world.copy();
            future.settings[1] = patience;
            future.until(w -> false, ticks);
            found.put(future.longest(), patience);
        }
        return found.values().iterator().next();
    }

    // ---- changes

    private void change() {
        undoable.addLast(world.copy());
        if (undoable.size() > 10) {
            undoable.removeFirst();
        }
    }

    public int makeCall(int from, int to) {
        range(from, 0, world.floors - 1);
        range(to, 0, world.floors - 1);
        range(from == to ? 1 : 0, 0, 0);
        if (world.people.size() == 24) {
            throw new IllegalStateException();
        }
        change();
        return world.add(from, to, world.time);
    }

    public int run(int ticks) {
        range(ticks, 1, 500);
        change();
        int before = inState("done");
        world.until(w -> false, ticks);
        return inState("done") - before;
    }

    public boolean setStopped(int car, boolean stopped) {
        lift(car);
        change();
        Lift lift = lift(car);
        boolean before = lift.stopped;
        lift.stopped = stopped;
        if (stopped) {
            lift.pendingCost.clear();
            lift.pendingTime.clear();
        }
        return before;
    }

    public boolean setJammed(int car, boolean jammed) {
        lift(car);
        change();
        boolean before = lift(car).jammed;
        lift(car).jammed = jammed;
        return before;
    }

    public int set(int which, int value) {
        range(which, 0, 4);
        range(value, RANGES[which][0], RANGES[which][1]);
        change();
        int before = world.settings[which];
        world.settings[which] = value;
        return before;
    }

    public int forget(int car, int call) {
        if (!lift(car).holding.containsKey(person(call).number)) {
            throw new IllegalStateException();
        }
        change();
        lift(car).undecided(call);
        lift(car).holding.remove(call);
        return lift(car).holding.size();
    }

    public int undo() {
        if (undoable.isEmpty()) {
            return -1;
        }
        world = undoable.removeLast();
        return undoable.size();
    }

    public int saveState() {
        kept = world.copy();
        return world.time;
    }

    public int restoreState() {
        if (kept == null) {
            throw new IllegalStateException();
        }
        world = kept.copy();
        undoable.clear();
        return world.time;
    }

    public int printCar(int car) {
        Lift lift = lift(car);
        StringBuilder text = new StringBuilder();
        for (int floor = 0; floor < world.floors; floor++) {
            int here = floor;
            if (lift.floor == floor) {
                text.append('O');
            } else if (world.aboard(lift).stream().anyMatch(p -> p.to == here)) {
                text.append('+');
            } else if (lift.holding.keySet().stream().anyMatch(call -> person(call).from == here)) {
                text.append('-');
            } else {
                text.append('.');
            }
        }
        output = text.toString();
        return output.length();
    }

    public int outputByte(int index) {
        return index >= 0 && index < output.length() ? output.charAt(index) : -1;
    }
}
