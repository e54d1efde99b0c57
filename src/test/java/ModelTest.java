import java.math.BigInteger;
import java.util.ArrayList;
import java.util.Arrays;
import java.util.Comparator;
import java.util.List;
import java.util.Random;
import java.util.function.LongSupplier;
import java.util.regex.Matcher;
import java.util.regex.Pattern;
import java.util.stream.IntStream;

/** Random runs of calls, each answer compared with that of a plain model of the document. */
public final class ModelTest {
    private static final int RUNS = 1500;
    private static final int CALLS = 500;
    private static final int WRONG_SHOWN = 10;

    private static int wrong;

    public static void main(String[] args) {
        for (int seed = 0; seed < RUNS && wrong < WRONG_SHOWN; seed++) {
            new Run(seed).play();
        }
        System.out.println(RUNS + " runs, " + wrong + " wrong");
        if (wrong != 0) {
            System.exit(1);
        }
    }

    /** One object and its model. */
    private static final class Run {
        private final int seed;
        private final Random random;
        private final Carpool real = new Carpool();
        private final Model model = new Model();
        private final int grid;
        private final int latest;
        private final int limit;
        private int calls;

        Run(int seed) {
            this.seed = seed;
            random = new Random(seed);
            grid = pick(2, 5, 12, 30, 100);
            latest = pick(30, 200, 10000);
            limit = pick(5, 20, 60, 401);
        }

        private int pick(int... of) {
            return of[random.nextInt(of.length)];
        }

        void play() {
            int drivers = random.nextInt(9);
            int riders = random.nextInt(21);
            for (int k = 0; k < drivers; k++) {
                addDriver();
            }
            for (int k = 0; k < riders; k++) {
                addRider();
            }
            while (calls < CALLS) {
                step();
            }
        }

        private boolean rarely() {
            return random.nextInt(40) == 0;
        }

        private int strange(int value) {
            return rarely() ? pick(-1, -2, value + 1, 100, 1440, 10000, Integer.MIN_VALUE,
                    Integer.MAX_VALUE) : value;
        }

        private int coordinate() {
            return strange(random.nextInt(grid));
        }

        private int driver() {
            return strange(random.nextInt(Math.max(1, model.drivers.size())));
        }

        private int rider() {
            return strange(random.nextInt(Math.max(1, model.riders.size())));
        }

        private void addDriver() {
            int[] a = {strange(1 + random.nextInt(4)), strange(random.nextInt(20)),
                strange(random.nextInt(limit)), strange(1 + random.nextInt(pick(1, 3, 99)))};
            both("addDriver", a);
            if (!model.drivers.isEmpty()) {
                both("setTrip", model.drivers.size() - 1, coordinate(), coordinate(), coordinate(),
                        coordinate());
            }
        }

        private void addRider() {
            int ready = random.nextInt(pick(1, 30, 60));
            int[] a = {coordinate(), coordinate(), coordinate(), coordinate(), strange(ready),
                strange(Math.min(9999, ready + random.nextInt(latest)))};
            both("addRider", a);
        }

        private void step() {
            switch (random.nextInt(52)) {
                case 0 -> addDriver();
                case 1 -> addRider();
                case 2 -> both("setTrip", driver(), coordinate(), coordinate(), coordinate(),
                        coordinate());
                case 3 -> both("driverCount");
                case 4 -> both("riderCount");
                case 5 -> both("isDone", driver());
                case 6 -> both("riderState", rider());
                case 7 -> both("driverOf", rider());
                case 8 -> both("ridersOf", driver());
                case 9 -> both("setPenalty", strange(random.nextInt(10000)));
                case 10 -> both("stopCount", driver());
                case 11, 12 -> both("stopRider", driver(), strange(random.nextInt(12)));
                case 13, 14 -> both("arrival", driver(), strange(random.nextInt(12)));
                case 15 -> both("routeLength", driver());
                case 16 -> both("detour", driver());
                case 17, 18 -> both("extra", rider(), driver());
                case 19 -> both("soloExtra", rider(), driver());
                case 20 -> both("bestDriver", rider());
                case 21, 22, 23, 24 -> both("assign", rider(), driver());
                case 25 -> both("unassign", rider());
                case 26 -> rareMatch();
                case 27 -> both("riderChoice", rider(), strange(random.nextInt(5)));
                case 28 -> both("driverChoice", driver(), strange(random.nextInt(8)));
                case 29 -> both("blockingPairs");
                case 30 -> both("noShow", rider());
                case 31, 32 -> both("comeBack", rider());
                case 33 -> both("replacement", driver());
                case 34 -> both("fill", driver());
                case 35 -> both("tripCost", driver());
                case 36 -> both("marginal", rider());
                case 37, 38, 39 -> both("share", rider());
                case 40 -> both("driverShare", driver());
                case 41 -> rareComplete();
                case 42 -> both("riderCredit", rider());
                case 43 -> both("driverCredit", driver());
                case 44 -> both("pay", rider(), payment());
                case 45 -> both("debtor", strange(random.nextInt(8)));
                case 46 -> both("meanDetourNumerator");
                case 47 -> both("meanDetourDenominator");
                case 48 -> rareText();
                case 49 -> lookAtErrors();
                case 50 -> both("save", strange(random.nextInt(2)));
                default -> rareRestore();
            }
        }

        private int payment() {
            return pick(0, 1, -1, 9999, -9999, 10000, -10000, random.nextInt(1000));
        }

        private void rareMatch() {
            if (random.nextInt(4) == 0) {
                both("match");
                both("blockingPairs");
            }
        }

        private void rareComplete() {
            if (random.nextInt(3) == 0) {
                both("complete", driver());
            }
        }

        private void rareRestore() {
            if (random.nextInt(3) == 0) {
                both("restore", strange(random.nextInt(2)));
            }
        }

        private void rareText() {
            if (random.nextInt(4) == 0) {
                write(text());
                load();
            } else {
                both("appendText", pick(0x20202020, 0x0a20203b, random.nextInt()));
                both("truncateText", strange(random.nextInt(9)));
            }
        }

        private void load() {
            both("load");
            lookAtErrors();
        }

        private void lookAtErrors() {
            both("errorCode");
            both("errorPosition");
        }

        private void write(String text) {
            both("truncateText", 0);
            for (int k = 0; k < text.length(); k += 4) {
                int four = 0;
                for (int b = k; b < k + 4; b++) {
                    four = four << 8 | (b < text.length() ? text.charAt(b) : ' ');
                }
                both("appendText", four);
            }
            both("truncateText", text.length());
        }

        /** A setup that is right or nearly so. */
        private String text() {
            StringBuilder text = new StringBuilder();
            int statements = random.nextInt(pick(2, 6, 30));
            for (int k = 0; k < statements; k++) {
                switch (random.nextInt(5)) {
                    case 0, 1 -> add(text, "driver", grid, grid, grid, grid, -4, 20, limit, -9);
                    case 2, 3 -> add(text, "rider", grid, grid, grid, grid, 60, latest);
                    default -> add(text, "penalty", 10000);
                }
            }
            for (int k = random.nextInt(pick(1, 1, 3)); k > 0 && text.length() > 0; k--) {
                int at = random.nextInt(text.length());
                switch (random.nextInt(3)) {
                    case 0 -> text.deleteCharAt(at);
                    case 1 -> text.setCharAt(at, "; \n05xd\t,\u00e9A{`/:".charAt(random.nextInt(15)));
                    default -> text.insert(at, "; \n9xd".charAt(random.nextInt(6)));
                }
            }
            text.setLength(Math.min(text.length(), random.nextInt(8) == 0
                    ? random.nextInt(600) : 600));
            return text.toString();
        }

        /** A negative bound stands for a number that is at least 1. */
        private void add(StringBuilder text, String word, int... bounds) {
            text.append(word);
            for (int bound : bounds) {
                text.append(" ".repeat(random.nextInt(3) == 0 ? 2 : 1));
                text.append("0".repeat(random.nextInt(10) == 0 ? random.nextInt(20) : 0));
                int value = bound > 0 ? random.nextInt(bound) : 1 + random.nextInt(-bound);
                text.append(random.nextInt(150) == 0 ? value + 9990 : value);
            }
            text.append(pick(0, 1) == 0 ? ";" : " ;\n");
        }

        /** After a wrong answer the run ends, as the model and the object have parted. */
        private void both(String name, int... a) {
            if (calls >= CALLS) {
                return;
            }
            calls++;
            String got = answer(() -> Calls.real(real, name, a));
            String want = answer(() -> Calls.model(model, name, a));
            if (!got.equals(want)) {
                wrong++;
                System.out.println("seed " + seed + ", call " + calls + ": " + name
                        + Arrays.toString(a) + " answered " + got + ", due is " + want);
                calls = CALLS;
            }
        }

        private static String answer(LongSupplier call) {
            try {
                return Long.toString(call.getAsLong());
            } catch (IndexOutOfBoundsException | IllegalArgumentException
                    | IllegalStateException e) {
                return "throws." + e.getClass().getSimpleName();
            }
        }
    }

    /** The calls by their names. */
    private static final class Calls {
        static long real(Carpool c, String name, int[] a) {
            return switch (name) {
                case "addDriver" -> c.addDriver(a[0], a[1], a[2], a[3]);
                case "setTrip" -> c.setTrip(a[0], a[1], a[2], a[3], a[4]);
                case "addRider" -> c.addRider(a[0], a[1], a[2], a[3], a[4], a[5]);
                case "driverCount" -> c.driverCount();
                case "riderCount" -> c.riderCount();
                case "isDone" -> c.isDone(a[0]) ? 1 : 0;
                case "riderState" -> c.riderState(a[0]);
                case "driverOf" -> c.driverOf(a[0]);
                case "ridersOf" -> c.ridersOf(a[0]);
                case "setPenalty" -> c.setPenalty(a[0]);
                case "stopCount" -> c.stopCount(a[0]);
                case "stopRider" -> c.stopRider(a[0], a[1]);
                case "arrival" -> c.arrival(a[0], a[1]);
                case "routeLength" -> c.routeLength(a[0]);
                case "detour" -> c.detour(a[0]);
                case "extra" -> c.extra(a[0], a[1]);
                case "soloExtra" -> c.soloExtra(a[0], a[1]);
                case "bestDriver" -> c.bestDriver(a[0]);
                case "assign" -> c.assign(a[0], a[1]);
                case "unassign" -> c.unassign(a[0]);
                case "match" -> c.match();
                case "riderChoice" -> c.riderChoice(a[0], a[1]);
                case "driverChoice" -> c.driverChoice(a[0], a[1]);
                case "blockingPairs" -> c.blockingPairs();
                case "noShow" -> c.noShow(a[0]);
                case "comeBack" -> c.comeBack(a[0]);
                case "replacement" -> c.replacement(a[0]);
                case "fill" -> c.fill(a[0]);
                case "tripCost" -> c.tripCost(a[0]);
                case "marginal" -> c.marginal(a[0]);
                case "share" -> c.share(a[0]);
                case "driverShare" -> c.driverShare(a[0]);
                case "complete" -> c.complete(a[0]);
                case "riderCredit" -> c.riderCredit(a[0]);
                case "driverCredit" -> c.driverCredit(a[0]);
                case "pay" -> c.pay(a[0], a[1]);
                case "debtor" -> c.debtor(a[0]);
                case "meanDetourNumerator" -> c.meanDetourNumerator();
                case "meanDetourDenominator" -> c.meanDetourDenominator();
                case "appendText" -> c.appendText(a[0]);
                case "truncateText" -> c.truncateText(a[0]);
                case "load" -> c.load();
                case "errorCode" -> c.errorCode();
                case "errorPosition" -> c.errorPosition();
                case "save" -> {
                    c.save(a[0]);
                    yield 0;
                }
                case "restore" -> {
                    c.restore(a[0]);
                    yield 0;
                }
                default -> throw new AssertionError(name);
            };
        }

        static long model(Model m, String name, int[] a) {
            return switch (name) {
                case "addDriver" -> m.addDriver(a);
                case "setTrip" -> m.setTrip(a);
                case "addRider" -> m.addRider(a);
                case "driverCount" -> m.drivers.size();
                case "riderCount" -> m.riders.size();
                case "isDone" -> m.driver(a[0]).done ? 1 : 0;
                case "riderState" -> m.rider(a[0]).state;
                case "driverOf" -> m.rider(a[0]).driver;
                case "ridersOf" -> m.ridersIn(m.driver(a[0])).stream().mapToInt(r -> 1 << r).sum();
                case "setPenalty" -> m.setPenalty(a[0]);
                case "stopCount" -> m.driver(a[0]).stops.size() + 2;
                case "stopRider" -> m.stopRider(a[0], a[1]);
                case "arrival" -> m.arrival(a[0], a[1]);
                case "routeLength" -> m.length(m.driver(a[0]), m.driver(a[0]).stops);
                case "detour" -> m.detour(m.driver(a[0]), m.driver(a[0]).stops);
                case "extra" -> m.extra(m.rider(a[0]), m.driver(a[1]));
                case "soloExtra" -> m.solo(m.rider(a[0]), m.driver(a[1]));
                case "bestDriver" -> m.bestDriver(m.rider(a[0]));
                case "assign" -> m.assign(m.rider(a[0]), m.driver(a[1]));
                case "unassign" -> m.unassign(m.rider(a[0]));
                case "match" -> m.match();
                case "riderChoice" -> m.at(m.wishes(m.rider(a[0])), a[1]);
                case "driverChoice" -> m.at(m.candidates(m.driver(a[0])), a[1]);
                case "blockingPairs" -> m.blockingPairs();
                case "noShow" -> m.noShow(m.rider(a[0]));
                case "comeBack" -> m.comeBack(m.rider(a[0]));
                case "replacement" -> m.replacement(m.driver(a[0]));
                case "fill" -> m.fill(m.driver(a[0]));
                case "tripCost" -> m.length(m.driver(a[0]), m.driver(a[0]).stops)
                        * m.driver(a[0]).rate;
                case "marginal" -> m.rider(a[0]).driver < 0 ? -1 : m.marginal(a[0]);
                case "share" -> m.rider(a[0]).driver < 0 ? -1
                        : m.shares(m.driver(m.rider(a[0]).driver))[a[0]];
                case "driverShare" -> m.shares(m.driver(a[0]))[Model.DRIVER];
                case "complete" -> m.complete(m.driver(a[0]));
                case "riderCredit" -> m.rider(a[0]).credit;
                case "driverCredit" -> m.driver(a[0]).credit;
                case "pay" -> m.pay(m.rider(a[0]), a[1]);
                case "debtor" -> m.at(m.debtors(), a[0]);
                case "meanDetourNumerator" -> m.mean()[0];
                case "meanDetourDenominator" -> m.mean()[1];
                case "appendText" -> m.appendText(a[0]);
                case "truncateText" -> m.truncateText(a[0]);
                case "load" -> m.load();
                case "errorCode" -> m.code;
                case "errorPosition" -> m.position;
                case "save" -> m.save(a[0]);
                case "restore" -> m.restore(a[0]);
                default -> throw new AssertionError(name);
            };
        }
    }

    /** A place of the map. */
    private record Place(int x, int y) {
        int to(Place other) {
            return Math.abs(x - other.x) + Math.abs(y - other.y);
        }
    }

    private static final class Rider implements Cloneable {
        int number;
        Place from;
        Place to;
        int ready;
        int deadline;
        int state;
        int driver = -1;
        long credit;

        Rider copy() {
            try {
                return (Rider) clone();
            } catch (CloneNotSupportedException e) {
                throw new AssertionError(e);
            }
        }
    }

    private static final class Driver implements Cloneable {
        int number;
        Place start = new Place(0, 0);
        Place end = new Place(0, 0);
        int seats;
        int departure;
        int limit;
        int rate;
        boolean done;
        long credit;
        /** Without the start and the end. */
        List<Integer> stops = List.of();

        Driver copy() {
            try {
                return (Driver) clone();
            } catch (CloneNotSupportedException e) {
                throw new AssertionError(e);
            }
        }
    }

    /** A saved state. */
    private record State(List<Driver> drivers, List<Rider> riders, int penalty) {
    }

    /** The document, as plainly as it says. */
    private static final class Model {
        static final int DRIVER = 20;

        List<Driver> drivers = new ArrayList<>();
        List<Rider> riders = new ArrayList<>();
        int penalty = 500;
        String text = "";
        int code;
        int position = -1;
        final State[] saved = new State[2];

        private static void range(int value, int low, int high) {
            if (value < low || value > high) {
                throw new IllegalArgumentException();
            }
        }

        private static void state(boolean good) {
            if (!good) {
                throw new IllegalStateException();
            }
        }

        Driver driver(int number) {
            if (number < 0 || number >= drivers.size()) {
                throw new IndexOutOfBoundsException();
            }
            return drivers.get(number);
        }

        Rider rider(int number) {
            if (number < 0 || number >= riders.size()) {
                throw new IndexOutOfBoundsException();
            }
            return riders.get(number);
        }

        int addDriver(int[] a) {
            range(a[0], 1, 4);
            range(a[1], 0, 1439);
            range(a[2], 0, 400);
            range(a[3], 1, 99);
            state(drivers.size() < 8);
            Driver driver = new Driver();
            driver.number = drivers.size();
            driver.seats = a[0];
            driver.departure = a[1];
            driver.limit = a[2];
            driver.rate = a[3];
            drivers.add(driver);
            return driver.number;
        }

        int setTrip(int[] a) {
            Driver driver = driver(a[0]);
            for (int k = 1; k < 5; k++) {
                range(a[k], 0, 99);
            }
            state(!driver.done && driver.stops.isEmpty());
            driver.start = new Place(a[1], a[2]);
            driver.end = new Place(a[3], a[4]);
            return driver.start.to(driver.end);
        }

        int addRider(int[] a) {
            for (int k = 0; k < 4; k++) {
                range(a[k], 0, 99);
            }
            range(a[4], 0, 1439);
            range(a[5], 0, 9999);
            state(riders.size() < 20);
            Rider rider = new Rider();
            rider.number = riders.size();
            rider.from = new Place(a[0], a[1]);
            rider.to = new Place(a[2], a[3]);
            rider.ready = a[4];
            rider.deadline = a[5];
            riders.add(rider);
            return rider.number;
        }

        int setPenalty(int cents) {
            range(cents, 0, 9999);
            int previous = penalty;
            penalty = cents;
            return previous;
        }

        List<Integer> ridersIn(Driver driver) {
            return driver.stops.stream().filter(s -> s < 100).sorted().toList();
        }

        /** The places of all stops. */
        private List<Place> places(Driver driver, List<Integer> stops) {
            List<Place> places = new ArrayList<>();
            places.add(driver.start);
            for (int stop : stops) {
                places.add(stop < 100 ? riders.get(stop).from : riders.get(stop - 100).to);
            }
            places.add(driver.end);
            return places;
        }

        int stopRider(int d, int stop) {
            Driver driver = driver(d);
            if (stop < 0 || stop > driver.stops.size() + 1) {
                throw new IndexOutOfBoundsException();
            }
            return stop == 0 || stop > driver.stops.size() ? -1 : driver.stops.get(stop - 1);
        }

        int arrival(int d, int stop) {
            stopRider(d, stop);
            return arrivals(driver(d), driver(d).stops).get(stop);
        }

        private List<Integer> arrivals(Driver driver, List<Integer> stops) {
            List<Place> places = places(driver, stops);
            List<Integer> arrivals = new ArrayList<>(List.of(driver.departure));
            int leaves = driver.departure;
            for (int k = 1; k < places.size(); k++) {
                int arrives = leaves + places.get(k - 1).to(places.get(k));
                arrivals.add(arrives);
                leaves = arrives;
                if (k <= stops.size() && stops.get(k - 1) < 100) {
                    leaves = Math.max(arrives, riders.get(stops.get(k - 1)).ready);
                }
            }
            return arrivals;
        }

        int length(Driver driver, List<Integer> stops) {
            List<Place> places = places(driver, stops);
            return IntStream.range(1, places.size())
                    .map(k -> places.get(k - 1).to(places.get(k))).sum();
        }

        int detour(Driver driver, List<Integer> stops) {
            return length(driver, stops) - driver.start.to(driver.end);
        }

        private boolean isValid(Driver driver, List<Integer> stops) {
            if (detour(driver, stops) > driver.limit) {
                return false;
            }
            List<Integer> arrivals = arrivals(driver, stops);
            int inCar = 0;
            for (int k = 0; k < stops.size(); k++) {
                int stop = stops.get(k);
                inCar += stop < 100 ? 1 : -1;
                if (inCar > driver.seats
                        || stop >= 100 && arrivals.get(k + 1) > riders.get(stop - 100).deadline) {
                    return false;
                }
            }
            return true;
        }

        /** The stops with the best insertion, or null. */
        private List<Integer> inserted(Rider rider, Driver driver, List<Integer> stops) {
            List<Integer> best = null;
            for (int i = 0; i <= stops.size(); i++) {
                for (int j = i; j <= stops.size(); j++) {
                    List<Integer> trial = new ArrayList<>(stops.subList(0, i));
                    trial.add(rider.number);
                    trial.addAll(stops.subList(i, j));
                    trial.add(100 + rider.number);
                    trial.addAll(stops.subList(j, stops.size()));
                    if ((best == null || length(driver, trial) < length(driver, best))
                            && isValid(driver, trial)) {
                        best = trial;
                    }
                }
            }
            return best;
        }

        int extra(Rider rider, Driver driver) {
            if (driver.stops.contains(rider.number)) {
                return -1;
            }
            List<Integer> best = inserted(rider, driver, driver.stops);
            return best == null ? -1 : length(driver, best) - length(driver, driver.stops);
        }

        int solo(Rider rider, Driver driver) {
            List<Integer> best = inserted(rider, driver, List.of());
            return best == null ? -1 : detour(driver, best);
        }

        int bestDriver(Rider rider) {
            return drivers.stream().filter(d -> !d.done && extra(rider, d) >= 0)
                    .min(Comparator.comparing(d -> extra(rider, d))).map(d -> d.number).orElse(-1);
        }

        int assign(Rider rider, Driver driver) {
            int extra = extra(rider, driver);
            state(rider.state == 0 && !driver.done && extra >= 0);
            driver.stops = inserted(rider, driver, driver.stops);
            rider.state = 1;
            rider.driver = driver.number;
            return extra;
        }

        private List<Integer> without(Driver driver, int rider) {
            return driver.stops.stream().filter(s -> s % 100 != rider).toList();
        }

        private void leave(Rider rider, int state) {
            Driver driver = drivers.get(rider.driver);
            driver.stops = without(driver, rider.number);
            rider.driver = -1;
            rider.state = state;
        }

        int unassign(Rider rider) {
            state(rider.state == 1);
            Driver driver = drivers.get(rider.driver);
            int before = length(driver, driver.stops);
            leave(rider, 0);
            return before - length(driver, driver.stops);
        }

        private boolean fit(Rider rider, Driver driver) {
            return !driver.done && solo(rider, driver) >= 0;
        }

        /** The drivers that fit, the best first. */
        List<Integer> wishes(Rider rider) {
            return drivers.stream().filter(d -> fit(rider, d))
                    .sorted(Comparator.comparing(d -> solo(rider, d) * d.rate))
                    .map(d -> d.number).toList();
        }

        private Comparator<Rider> taste(Driver driver) {
            return Comparator.<Rider, Integer>comparing(r -> solo(r, driver))
                    .thenComparing(r -> -r.credit).thenComparing(r -> r.number);
        }

        List<Integer> candidates(Driver driver) {
            return riders.stream().filter(r -> r.state < 2 && fit(r, driver))
                    .sorted(taste(driver)).map(r -> r.number).toList();
        }

        int at(List<Integer> list, int place) {
            return place < 0 || place >= list.size() ? -1 : list.get(place);
        }

        int match() {
            riders.stream().filter(r -> r.state == 1).forEach(r -> leave(r, 0));
            List<List<Rider>> held = new ArrayList<>();
            drivers.forEach(d -> held.add(new ArrayList<>()));
            List<Rider> askers = new ArrayList<>(riders.stream().filter(r -> r.state == 0).toList());
            int[] next = new int[riders.size()];
            while (!askers.isEmpty()) {
                Rider rider = askers.remove(askers.size() - 1);
                int choice = at(wishes(rider), next[rider.number]++);
                if (choice >= 0) {
                    List<Rider> here = held.get(choice);
                    here.add(rider);
                    here.sort(taste(drivers.get(choice)));
                    if (here.size() > drivers.get(choice).seats) {
                        askers.add(here.remove(here.size() - 1));
                    }
                }
            }
            for (Driver driver : drivers) {
                for (Rider rider : held.get(driver.number)) {
                    if (extra(rider, driver) >= 0) {
                        assign(rider, driver);
                    }
                }
            }
            return (int) riders.stream().filter(r -> r.state == 1).count();
        }

        int blockingPairs() {
            int pairs = 0;
            for (Rider rider : riders) {
                for (Driver driver : drivers) {
                    List<Integer> in = ridersIn(driver);
                    if (rider.state < 2 && fit(rider, driver) && !in.contains(rider.number)) {
                        List<Integer> wishes = wishes(rider);
                        boolean wants = rider.state == 0
                                || wishes.indexOf(driver.number) < wishes.indexOf(rider.driver);
                        boolean wanted = in.size() < driver.seats || in.stream().anyMatch(
                                r -> taste(driver).compare(rider, riders.get(r)) < 0);
                        pairs += wants && wanted ? 1 : 0;
                    }
                }
            }
            return pairs;
        }

        int noShow(Rider rider) {
            state(rider.state == 1);
            int driver = rider.driver;
            leave(rider, 2);
            rider.credit -= penalty;
            drivers.get(driver).credit += penalty;
            return driver;
        }

        long comeBack(Rider rider) {
            state(rider.state == 2);
            rider.state = 0;
            return rider.credit;
        }

        int replacement(Driver driver) {
            if (driver.done) {
                return -1;
            }
            return riders.stream().filter(r -> r.state == 0 && extra(r, driver) >= 0)
                    .min(Comparator.<Rider, Integer>comparing(r -> extra(r, driver))
                            .thenComparing(r -> -r.credit).thenComparing(r -> r.number))
                    .map(r -> r.number).orElse(-1);
        }

        int fill(Driver driver) {
            int count = 0;
            for (int next = replacement(driver); next >= 0; next = replacement(driver)) {
                assign(riders.get(next), driver);
                count++;
            }
            return count;
        }

        int marginal(int rider) {
            Driver driver = drivers.get(riders.get(rider).driver);
            return length(driver, driver.stops) - length(driver, without(driver, rider));
        }

        /** By rider, and the driver's. */
        int[] shares(Driver driver) {
            int[] shares = new int[DRIVER + 1];
            List<Integer> in = ridersIn(driver);
            int base = driver.start.to(driver.end) * driver.rate;
            List<Integer> all = new ArrayList<>(List.of(DRIVER));
            all.addAll(in);
            for (int k = 0; k < all.size(); k++) {
                shares[all.get(k)] += base / all.size() + (k < base % all.size() ? 1 : 0);
            }
            int rest = detour(driver, driver.stops) * driver.rate;
            List<BigInteger> weights = in.stream().map(r -> BigInteger.valueOf(marginal(r))).toList();
            if (weights.stream().allMatch(w -> w.signum() == 0)) {
                weights = in.stream().map(r -> BigInteger.ONE).toList();
            }
            BigInteger sum = weights.stream().reduce(BigInteger.ZERO, BigInteger::add);
            BigInteger[] fractions = new BigInteger[DRIVER];
            int left = rest;
            for (int k = 0; k < in.size(); k++) {
                BigInteger[] part = BigInteger.valueOf(rest).multiply(weights.get(k))
                        .divideAndRemainder(sum);
                shares[in.get(k)] += part[0].intValueExact();
                left -= part[0].intValueExact();
                fractions[in.get(k)] = part[1];
            }
            in.stream().sorted(Comparator.comparing((Integer r) -> fractions[r]).reversed())
                    .limit(left).forEach(r -> shares[r]++);
            return shares;
        }

        int complete(Driver driver) {
            state(!driver.done);
            int[] shares = shares(driver);
            int sum = 0;
            for (int r : ridersIn(driver)) {
                riders.get(r).credit -= shares[r];
                riders.get(r).state = 3;
                sum += shares[r];
            }
            driver.credit += sum;
            driver.done = true;
            return sum;
        }

        long pay(Rider rider, int cents) {
            range(cents, -9999, 9999);
            rider.credit += cents;
            return rider.credit;
        }

        List<Integer> debtors() {
            return riders.stream().sorted(Comparator.comparing(r -> r.credit))
                    .map(r -> r.number).toList();
        }

        int[] mean() {
            List<Driver> with = drivers.stream().filter(d -> !d.stops.isEmpty()).toList();
            if (with.isEmpty()) {
                return new int[] {0, 1};
            }
            int sum = with.stream().mapToInt(d -> detour(d, d.stops)).sum();
            int divisor = BigInteger.valueOf(sum).gcd(BigInteger.valueOf(with.size())).intValue();
            return new int[] {sum / divisor, with.size() / divisor};
        }

        int appendText(int fourBytes) {
            state(text.length() + 4 <= 600);
            for (int shift = 24; shift >= 0; shift -= 8) {
                text += (char) (fourBytes >> shift & 255);
            }
            return text.length();
        }

        int truncateText(int length) {
            range(length, 0, text.length());
            text = text.substring(0, length);
            return length;
        }

        int load() {
            Model fresh = new Model();
            int statements = fresh.parse(text);
            text = "";
            code = fresh.code;
            position = fresh.position;
            if (code != 0) {
                return -1;
            }
            drivers = fresh.drivers;
            riders = fresh.riders;
            penalty = fresh.penalty;
            return statements;
        }

        private int parse(String setup) {
            Matcher token = Pattern.compile("[ \n]*(?:([a-z]+)|([0-9]+)|(;)|([^ \n])|$)",
                    Pattern.DOTALL).matcher(setup);
            String word = null;
            List<Integer> numbers = new ArrayList<>();
            int statements = 0;
            int at = 0;
            while (token.find(at)) {
                String found = token.group().replaceFirst("^[ \n]+", "");
                int start = token.end() - found.length();
                at = token.end();
                if (word == null && found.isEmpty()) {
                    return statements;
                }
                int wrong = word == null ? checkWord(found) : checkNext(word, numbers, found);
                if (wrong != 0) {
                    code = wrong;
                    position = start;
                    return -1;
                }
                if (word == null) {
                    word = found;
                } else if (!found.equals(";")) {
                    numbers.add(Integer.parseInt(found.replaceFirst("^0+(?=.)", "")));
                } else {
                    carryOut(word, numbers);
                    statements++;
                    word = null;
                    numbers.clear();
                }
            }
            throw new AssertionError("no token at " + at);
        }

        private int checkWord(String found) {
            if (!List.of("driver", "rider", "penalty").contains(found)) {
                return 1;
            }
            return found.equals("driver") && drivers.size() == 8
                    || found.equals("rider") && riders.size() == 20 ? 3 : 0;
        }

        private int checkNext(String word, List<Integer> numbers, String found) {
            String ranges = switch (word) {
                case "driver" -> "0-99 0-99 0-99 0-99 1-4 0-1439 0-400 1-99";
                case "rider" -> "0-99 0-99 0-99 0-99 0-1439 0-9999";
                default -> "0-9999";
            };
            String[] range = ranges.split(" ");
            if (numbers.size() == range.length) {
                return found.equals(";") ? 0 : 1;
            }
            if (!found.matches("[0-9]+")) {
                return 1;
            }
            BigInteger value = new BigInteger(found);
            String[] bounds = range[numbers.size()].split("-");
            return value.compareTo(new BigInteger(bounds[0])) < 0
                    || value.compareTo(new BigInteger(bounds[1])) > 0 ? 2 : 0;
        }

        private void carryOut(String word, List<Integer> n) {
            if (word.equals("driver")) {
                int driver = addDriver(new int[] {n.get(4), n.get(5), n.get(6), n.get(7)});
                setTrip(new int[] {driver, n.get(0), n.get(1), n.get(2), n.get(3)});
            } else if (word.equals("rider")) {
                addRider(n.stream().mapToInt(v -> v).toArray());
            } else {
                penalty = n.get(0);
            }
        }

        int save(int slot) {
            range(slot, 0, 1);
            saved[slot] = copy(new State(drivers, riders, penalty));
            return 0;
        }

        int restore(int slot) {
            range(slot, 0, 1);
            state(saved[slot] != null);
            State state = copy(saved[slot]);
            drivers = state.drivers;
            riders = state.riders;
            penalty = state.penalty;
            return 0;
        }

        private static State copy(State state) {
            List<Driver> drivers = new ArrayList<>();
            state.drivers.forEach(d -> drivers.add(d.copy()));
            List<Rider> riders = new ArrayList<>();
            state.riders.forEach(r -> riders.add(r.copy()));
            return new State(drivers, riders, state.penalty);
        }
    }
}
