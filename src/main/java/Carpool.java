import java.util.Arrays;

/**
 * A carpool board: drivers offer trips, riders ask for rides, and the board keeps the routes, a
 * stable matching, the shares of the costs and the credits.
 */
public final class Carpool {
    /** There is none. */
    public static final int NONE = -1;

    private static final int MAX_DRIVERS = 8;
    private static final int MAX_RIDERS = 20;
    private static final int MAX_STOPS = 2 + 2 * MAX_RIDERS;
    private static final int MAX_TEXT = 600;
    private static final int SLOTS = 2;

    private static final int MAX_COORDINATE = 99;
    private static final int MAX_SEATS = 4;
    private static final int MAX_START_TIME = 1439;
    private static final int MAX_DEADLINE = 9999;
    private static final int MAX_DETOUR = 400;
    private static final int MAX_RATE = 99;
    private static final int MAX_CENTS = 9999;
    private static final int FIRST_PENALTY = 500;

    private static final int WAITING = 0;
    private static final int ASSIGNED = 1;
    private static final int ABSENT = 2;
    private static final int DONE = 3;

    /** The code of a drop is this and the rider's number, that of a pickup the number alone. */
    private static final int DROP = 100;

    private Board board = new Board();
    /** load() reads into this one, so that a text with an error leaves the board as it is. */
    private Board spare = new Board();
    private final Board[] saved = new Board[SLOTS];
    private final Insertion insertion = new Insertion();
    private final Preferences preferences = new Preferences();
    private final Matching matching = new Matching();
    private final Shares shares = new Shares();
    private final SetupText text = new SetupText();
    private final SetupReader reader = new SetupReader();

    public Carpool() {
    }

    // ---- drivers and riders

    public int addDriver(int seats, int departure, int detour, int rate)
            throws IllegalArgumentException, IllegalStateException {
        if (!isWithin(seats, 1, MAX_SEATS) || !isWithin(departure, 0, MAX_START_TIME)
                || !isWithin(detour, 0, MAX_DETOUR) || !isWithin(rate, 1, MAX_RATE)) {
            throw new IllegalArgumentException("an argument is out of range");
        }
        if (board.hasAllDrivers()) {
            throw new IllegalStateException("there are 8 drivers");
        }
        Driver driver = board.nextDriver();
        driver.begin(seats, departure, detour, rate);
        return driver.number;
    }

    public int setTrip(int driver, int startX, int startY, int endX, int endY)
            throws IndexOutOfBoundsException, IllegalArgumentException, IllegalStateException {
        Driver asked = board.driver(driver);
        if (!isPlace(startX, startY) || !isPlace(endX, endY)) {
            throw new IllegalArgumentException("a coordinate is out of range");
        }
        if (asked.done || asked.route.riderTotal() > 0) {
            throw new IllegalStateException("the driver is done or has riders");
        }
        asked.route.begin(startX, startY, endX, endY);
        return asked.route.directLength();
    }

    public int addRider(int fromX, int fromY, int toX, int toY, int ready, int deadline)
            throws IllegalArgumentException, IllegalStateException {
        if (!isPlace(fromX, fromY) || !isPlace(toX, toY)
                || !isWithin(ready, 0, MAX_START_TIME) || !isWithin(deadline, 0, MAX_DEADLINE)) {
            throw new IllegalArgumentException("an argument is out of range");
        }
        if (board.hasAllRiders()) {
            throw new IllegalStateException("there are 20 riders");
        }
        Rider rider = board.nextRider();
        rider.begin(ready, deadline);
        rider.setPlaces(fromX, fromY, toX, toY);
        return rider.number;
    }

    public int driverCount() {
        return board.driverTotal;
    }

    public int riderCount() {
        return board.riderTotal;
    }

    public boolean isDone(int driver) throws IndexOutOfBoundsException {
        return board.driver(driver).done;
    }

    public int riderState(int rider) throws IndexOutOfBoundsException {
        return board.rider(rider).state;
    }

    public int driverOf(int rider) throws IndexOutOfBoundsException {
        return board.rider(rider).driver;
    }

    public int ridersOf(int driver) throws IndexOutOfBoundsException {
        return board.driver(driver).route.riderMask();
    }

    public int setPenalty(int cents) throws IllegalArgumentException {
        if (!isWithin(cents, 0, MAX_CENTS)) {
            throw new IllegalArgumentException("the penalty is out of range");
        }
        int previous = board.penalty;
        board.penalty = cents;
        return previous;
    }

    // ---- routes

    public int stopCount(int driver) throws IndexOutOfBoundsException {
        return board.driver(driver).route.count;
    }

    public int stopRider(int driver, int stop) throws IndexOutOfBoundsException {
        return routeWithStop(driver, stop).code[stop];
    }

    public int arrival(int driver, int stop) throws IndexOutOfBoundsException {
        return routeWithStop(driver, stop).arrivalAt(stop, board.driver(driver).departure);
    }

    public int routeLength(int driver) throws IndexOutOfBoundsException {
        return board.driver(driver).route.length();
    }

    public int detour(int driver) throws IndexOutOfBoundsException {
        return board.driver(driver).route.detourLength();
    }

    public int extra(int rider, int driver) throws IndexOutOfBoundsException {
        Rider asking = board.rider(rider);
        return insertion.extraInRoute(asking, board.driver(driver));
    }

    public int soloExtra(int rider, int driver) throws IndexOutOfBoundsException {
        Rider asking = board.rider(rider);
        return insertion.extraAlone(asking, board.driver(driver));
    }

    public int bestDriver(int rider) throws IndexOutOfBoundsException {
        Rider asking = board.rider(rider);
        int best = NONE;
        int bestExtra = NONE;
        for (int d = 0; d < board.driverTotal; d++) {
            Driver driver = board.driver(d);
            int least = driver.done ? NONE : insertion.extraInRoute(asking, driver);
            if (least != NONE && (best == NONE || least < bestExtra)) {
                best = d;
                bestExtra = least;
            }
        }
        return best;
    }

    // ---- assigning

    public int assign(int rider, int driver)
            throws IndexOutOfBoundsException, IllegalStateException {
        Rider asking = board.rider(rider);
        Driver asked = board.driver(driver);
        if (asking.state != WAITING) {
            throw new IllegalStateException("the rider is not waiting");
        }
        if (asked.done) {
            throw new IllegalStateException("the driver is not open");
        }
        int added = insertion.putIn(asking, asked);
        if (added == NONE) {
            throw new IllegalStateException("there is no extra");
        }
        return added;
    }

    public int unassign(int rider) throws IndexOutOfBoundsException, IllegalStateException {
        Rider leaving = assignedRider(rider);
        Route route = board.driver(leaving.driver).route;
        int before = route.length();
        takeOut(leaving, WAITING);
        return before - route.length();
    }

    public int match() {
        board.freeAssignedRiders();
        preferences.read(board, insertion);
        matching.run(board, preferences);
        int assigned = 0;
        for (int d = 0; d < board.driverTotal; d++) {
            assigned += assignHeldRiders(board.driver(d));
        }
        return assigned;
    }

    public int riderChoice(int rider, int place) throws IndexOutOfBoundsException {
        Rider asking = board.rider(rider);
        preferences.read(board, insertion);
        return preferences.driverAt(board, asking, place);
    }

    public int driverChoice(int driver, int place) throws IndexOutOfBoundsException {
        Driver asked = board.driver(driver);
        preferences.read(board, insertion);
        return preferences.riderAt(board, asked, place);
    }

    public int blockingPairs() {
        preferences.read(board, insertion);
        int pairs = 0;
        for (int d = 0; d < board.driverTotal; d++) {
            for (int r = 0; r < board.riderTotal; r++) {
                if (preferences.isBlocking(board, board.driver(d), board.rider(r))) {
                    pairs++;
                }
            }
        }
        return pairs;
    }

    // ---- absent riders and replacements

    public int noShow(int rider) throws IndexOutOfBoundsException, IllegalStateException {
        Rider missing = assignedRider(rider);
        Driver driver = board.driver(missing.driver);
        takeOut(missing, ABSENT);
        missing.credit -= board.penalty;
        driver.credit += board.penalty;
        return driver.number;
    }

    public long comeBack(int rider) throws IndexOutOfBoundsException, IllegalStateException {
        Rider returning = board.rider(rider);
        if (returning.state != ABSENT) {
            throw new IllegalStateException("the rider is not absent");
        }
        returning.state = WAITING;
        return returning.credit;
    }

    public int replacement(int driver) throws IndexOutOfBoundsException {
        return bestReplacement(board.driver(driver));
    }

    public int fill(int driver) throws IndexOutOfBoundsException {
        Driver asked = board.driver(driver);
        int assigned = 0;
        for (int turn = 0; turn < MAX_RIDERS; turn++) {
            int next = bestReplacement(asked);
            if (next == NONE) {
                return assigned;
            }
            insertion.putIn(board.rider(next), asked);
            assigned++;
        }
        return assigned;
    }

    // ---- costs and credits

    public int tripCost(int driver) throws IndexOutOfBoundsException {
        Driver asked = board.driver(driver);
        return asked.route.length() * asked.rate;
    }

    public int marginal(int rider) throws IndexOutOfBoundsException {
        Rider asked = board.rider(rider);
        if (asked.driver == NONE) {
            return NONE;
        }
        return board.driver(asked.driver).route.marginalLength(asked.number);
    }

    public int share(int rider) throws IndexOutOfBoundsException {
        Rider asked = board.rider(rider);
        if (asked.driver == NONE) {
            return NONE;
        }
        shares.divide(board.driver(asked.driver));
        return shares.ofRider[asked.number];
    }

    public int driverShare(int driver) throws IndexOutOfBoundsException {
        shares.divide(board.driver(driver));
        return shares.ofDriver;
    }

    public int complete(int driver) throws IndexOutOfBoundsException, IllegalStateException {
        Driver finishing = board.driver(driver);
        if (finishing.done) {
            throw new IllegalStateException("the driver is done already");
        }
        shares.divide(finishing);
        int sum = 0;
        for (int r = 0; r < board.riderTotal; r++) {
            Rider rider = board.rider(r);
            if (rider.driver == finishing.number) {
                rider.credit -= shares.ofRider[r];
                rider.state = DONE;
                sum += shares.ofRider[r];
            }
        }
        finishing.credit += sum;
        finishing.done = true;
        return sum;
    }

    public long riderCredit(int rider) throws IndexOutOfBoundsException {
        return board.rider(rider).credit;
    }

    public long driverCredit(int driver) throws IndexOutOfBoundsException {
        return board.driver(driver).credit;
    }

    public long pay(int rider, int cents)
            throws IndexOutOfBoundsException, IllegalArgumentException {
        Rider payer = board.rider(rider);
        if (!isWithin(cents, -MAX_CENTS, MAX_CENTS)) {
            throw new IllegalArgumentException("the amount is out of range");
        }
        payer.credit += cents;
        return payer.credit;
    }

    public int debtor(int place) {
        for (int r = 0; r < board.riderTotal; r++) {
            if (board.ridersInGreaterDebt(board.rider(r)) == place) {
                return r;
            }
        }
        return NONE;
    }

    public int meanDetourNumerator() {
        int drivers = board.driversWithRiders();
        int sum = board.sumOfDetours();
        return drivers == 0 ? 0 : sum / commonDivisor(sum, drivers);
    }

    public int meanDetourDenominator() {
        int drivers = board.driversWithRiders();
        return drivers == 0 ? 1 : drivers / commonDivisor(board.sumOfDetours(), drivers);
    }

    // ---- setup texts

    public int appendText(int fourBytes) throws IllegalStateException {
        if (text.length + 4 > MAX_TEXT) {
            throw new IllegalStateException("the text would be too long");
        }
        for (int shift = 24; shift >= 0; shift -= 8) {
            text.add(fourBytes >>> shift & 255);
        }
        return text.length;
    }

    public int truncateText(int length) throws IllegalArgumentException {
        if (!isWithin(length, 0, text.length)) {
            throw new IllegalArgumentException("the length is out of range");
        }
        text.length = length;
        return length;
    }

    public int load() {
        int statements = reader.read(text, spare);
        text.length = 0;
        if (statements != NONE) {
            Board replaced = board;
            board = spare;
            spare = replaced;
        }
        return statements;
    }

    public int errorCode() {
        return reader.faultCode;
    }

    public int errorPosition() {
        return reader.faultPosition;
    }

    // ---- saved states

    public void save(int slot) throws IllegalArgumentException {
        checkSlot(slot);
        Board kept = saved[slot];
        if (kept == null) {
            kept = new Board();
            saved[slot] = kept;
        }
        kept.copyFrom(board);
    }

    public void restore(int slot) throws IllegalArgumentException, IllegalStateException {
        checkSlot(slot);
        Board kept = saved[slot];
        if (kept == null) {
            throw new IllegalStateException("nothing is saved there");
        }
        board.copyFrom(kept);
    }

    // ---- what the methods above share

    private static boolean isWithin(int value, int low, int high) {
        return low <= value && value <= high;
    }

    private static boolean isPlace(int x, int y) {
        return isWithin(x, 0, MAX_COORDINATE) && isWithin(y, 0, MAX_COORDINATE);
    }

    private static int distance(int x, int y, int otherX, int otherY) {
        int across = x < otherX ? otherX - x : x - otherX;
        int along = y < otherY ? otherY - y : y - otherY;
        return across + along;
    }

    /** The greatest number up to "most" that divides both, which is 1 at least. */
    private static int commonDivisor(int number, int most) {
        for (int divisor = most; divisor > 1; divisor--) {
            if (number % divisor == 0 && most % divisor == 0) {
                return divisor;
            }
        }
        return 1;
    }

    private static void checkSlot(int slot) {
        if (!isWithin(slot, 0, SLOTS - 1)) {
            throw new IllegalArgumentException("there is no such slot");
        }
    }

    /** The route of the driver, after a look whether it has this stop. */
    private Route routeWithStop(int driver, int stop) {
        Route route = board.driver(driver).route;
        if (!isWithin(stop, 0, route.count - 1)) {
            throw new IndexOutOfBoundsException("there is no such stop");
        }
        return route;
    }

    private Rider assignedRider(int rider) {
        Rider asked = board.rider(rider);
        if (asked.state != ASSIGNED) {
            throw new IllegalStateException("the rider is not assigned");
        }
        return asked;
    }

    private void takeOut(Rider rider, int newState) {
        board.driver(rider.driver).route.remove(rider.number);
        rider.driver = NONE;
        rider.state = newState;
    }

    private int assignHeldRiders(Driver driver) {
        int assigned = 0;
        for (int turn = 0; turn < driver.seats; turn++) {
            Rider next = matching.takeBestHeld(board, preferences, driver);
            if (next != null && insertion.putIn(next, driver) != NONE) {
                assigned++;
            }
        }
        return assigned;
    }

    private int bestReplacement(Driver driver) {
        if (driver.done) {
            return NONE;
        }
        int best = NONE;
        int bestExtra = NONE;
        long bestCredit = 0;
        for (int r = 0; r < board.riderTotal; r++) {
            Rider rider = board.rider(r);
            int least = rider.state == WAITING ? insertion.extraInRoute(rider, driver) : NONE;
            if (least != NONE && (best == NONE || least < bestExtra
                    || least == bestExtra && rider.credit > bestCredit)) {
                best = r;
                bestExtra = least;
                bestCredit = rider.credit;
            }
        }
        return best;
    }

    /** A rider's wish, state and credit. */
    private static final class Rider {
        private final int number;
        private int fromX;
        private int fromY;
        private int toX;
        private int toY;
        private int ready;
        private int deadline;
        private int state;
        /** The driver in whose route the rider is. */
        private int driver = NONE;
        private long credit;

        private Rider(int number) {
            this.number = number;
        }

        private void begin(int readyTime, int latest) {
            ready = readyTime;
            deadline = latest;
            state = WAITING;
            driver = NONE;
            credit = 0;
        }

        private void setPlaces(int originX, int originY, int destinationX, int destinationY) {
            fromX = originX;
            fromY = originY;
            toX = destinationX;
            toY = destinationY;
        }

        private void copyFrom(Rider other) {
            begin(other.ready, other.deadline);
            setPlaces(other.fromX, other.fromY, other.toX, other.toY);
            state = other.state;
            driver = other.driver;
            credit = other.credit;
        }
    }

    /** A driver's offer, state and credit. */
    private static final class Driver {
        private final int number;
        private final Route route = new Route();
        private int seats;
        private int departure;
        private int limit;
        private int rate;
        private boolean done;
        private long credit;

        private Driver(int number) {
            this.number = number;
        }

        /** An open driver whose start and end are 0, 0. */
        private void begin(int seatTotal, int startTime, int detourLimit, int centsEach) {
            seats = seatTotal;
            departure = startTime;
            limit = detourLimit;
            rate = centsEach;
            done = false;
            credit = 0;
            route.begin(0, 0, 0, 0);
        }

        private void copyFrom(Driver other) {
            begin(other.seats, other.departure, other.limit, other.rate);
            done = other.done;
            credit = other.credit;
            route.copyFrom(other.route);
        }
    }

    /** The stops of a driver, the start and the end included; there are always these two. */
    private static final class Route {
        /** What stopRider() answers. */
        private final int[] code = new int[MAX_STOPS];
        private final int[] x = new int[MAX_STOPS];
        private final int[] y = new int[MAX_STOPS];
        /** The ready time of a pickup and the deadline of a drop. */
        private final int[] time = new int[MAX_STOPS];
        private int count;

        private Route() {
            begin(0, 0, 0, 0);
        }

        private void begin(int startX, int startY, int endX, int endY) {
            setStop(0, NONE, startX, startY, 0);
            setStop(1, NONE, endX, endY, 0);
            count = 2;
        }

        private void beginLike(Route other) {
            int end = other.count - 1;
            begin(other.x[0], other.y[0], other.x[end], other.y[end]);
        }

        private void copyFrom(Route other) {
            count = other.count;
            System.arraycopy(other.code, 0, code, 0, count);
            System.arraycopy(other.x, 0, x, 0, count);
            System.arraycopy(other.y, 0, y, 0, count);
            System.arraycopy(other.time, 0, time, 0, count);
        }

        private int riderTotal() {
            return (count - 2) / 2;
        }

        private int riderMask() {
            int mask = 0;
            for (int stop = 0; stop < count; stop++) {
                if (isPickup(stop)) {
                    mask |= 1 << code[stop];
                }
            }
            return mask;
        }

        private boolean hasRider(int rider) {
            return (riderMask() >>> rider & 1) != 0;
        }

        private boolean isPickup(int stop) {
            return 0 <= code[stop] && code[stop] < DROP;
        }

        private boolean isDrop(int stop) {
            return code[stop] >= DROP;
        }

        private boolean isOf(int stop, int rider) {
            return code[stop] == rider || code[stop] == DROP + rider;
        }

        private int step(int stop, int other) {
            return distance(x[stop], y[stop], x[other], y[other]);
        }

        private int length() {
            int sum = 0;
            for (int stop = 1; stop < count; stop++) {
                sum += step(stop - 1, stop);
            }
            return sum;
        }

        /** The length if the stops of this rider were not there. */
        private int lengthWithout(int rider) {
            int sum = 0;
            int last = 0;
            for (int stop = 1; stop < count; stop++) {
                if (!isOf(stop, rider)) {
                    sum += step(last, stop);
                    last = stop;
                }
            }
            return sum;
        }

        private int marginalLength(int rider) {
            return length() - lengthWithout(rider);
        }

        private int directLength() {
            return step(0, count - 1);
        }

        private int detourLength() {
            return length() - step(0, count - 1);
        }

        private int arrivalAt(int stop, int departure) {
            int now = departure;
            for (int k = 1; k <= stop && k < count; k++) {
                now = leaving(k - 1, now) + step(k - 1, k);
            }
            return now;
        }

        private int leaving(int stop, int arrived) {
            return isPickup(stop) ? Math.max(arrived, time[stop]) : arrived;
        }

        private boolean keepsSeatsAndDeadlines(int seats, int departure) {
            int now = departure;
            int inCar = 0;
            for (int stop = 1; stop < count; stop++) {
                now = leaving(stop - 1, now) + step(stop - 1, stop);
                if (isPickup(stop)) {
                    inCar++;
                } else if (isDrop(stop)) {
                    inCar--;
                    if (now > time[stop]) {
                        return false;
                    }
                }
                if (inCar > seats) {
                    return false;
                }
            }
            return true;
        }

        /** By how much an insertion would make the route longer. */
        private int lengthening(Rider rider, int pickupAfter, int dropAfter) {
            int toPickup = toPlace(pickupAfter, rider.fromX, rider.fromY);
            int fromDrop = toPlace(dropAfter + 1, rider.toX, rider.toY);
            if (pickupAfter == dropAfter) {
                return toPickup + distance(rider.fromX, rider.fromY, rider.toX, rider.toY)
                        + fromDrop - step(pickupAfter, pickupAfter + 1);
            }
            int fromPickup = toPlace(pickupAfter + 1, rider.fromX, rider.fromY);
            int toDrop = toPlace(dropAfter, rider.toX, rider.toY);
            return toPickup + fromPickup - step(pickupAfter, pickupAfter + 1)
                    + toDrop + fromDrop - step(dropAfter, dropAfter + 1);
        }

        private int toPlace(int stop, int placeX, int placeY) {
            return distance(x[stop], y[stop], placeX, placeY);
        }

        /** The two indexes are those of stops before the end, the first one not the greater. */
        private void insert(Rider rider, int pickupAfter, int dropAfter) {
            for (int stop = count - 1; stop > dropAfter; stop--) {
                moveStop(stop, stop + 2);
            }
            setStop(dropAfter + 2, DROP + rider.number, rider.toX, rider.toY, rider.deadline);
            for (int stop = dropAfter; stop > pickupAfter; stop--) {
                moveStop(stop, stop + 1);
            }
            setStop(pickupAfter + 1, rider.number, rider.fromX, rider.fromY, rider.ready);
            count += 2;
        }

        private void remove(int rider) {
            int kept = 0;
            for (int stop = 0; stop < count; stop++) {
                if (!isOf(stop, rider)) {
                    moveStop(stop, kept);
                    kept++;
                }
            }
            count = kept;
        }

        private void moveStop(int from, int to) {
            setStop(to, code[from], x[from], y[from], time[from]);
        }

        private void setStop(int stop, int newCode, int newX, int newY, int newTime) {
            code[stop] = newCode;
            x[stop] = newX;
            y[stop] = newY;
            time[stop] = newTime;
        }
    }

    /** All that save() saves. */
    private static final class Board {
        private final Driver[] drivers = new Driver[MAX_DRIVERS];
        private final Rider[] riders = new Rider[MAX_RIDERS];
        private int driverTotal;
        private int riderTotal;
        private int penalty = FIRST_PENALTY;

        private Board() {
            for (int d = 0; d < MAX_DRIVERS; d++) {
                drivers[d] = new Driver(d);
            }
            for (int r = 0; r < MAX_RIDERS; r++) {
                riders[r] = new Rider(r);
            }
        }

        private void clear() {
            driverTotal = 0;
            riderTotal = 0;
            penalty = FIRST_PENALTY;
        }

        private void copyFrom(Board other) {
            driverTotal = other.driverTotal;
            riderTotal = other.riderTotal;
            penalty = other.penalty;
            for (int d = 0; d < driverTotal; d++) {
                driver(d).copyFrom(other.driver(d));
            }
            for (int r = 0; r < riderTotal; r++) {
                rider(r).copyFrom(other.rider(r));
            }
        }

        private Driver driver(int number) {
            if (!isWithin(number, 0, driverTotal - 1)) {
                throw new IndexOutOfBoundsException("there is no such driver");
            }
            return drivers[number];
        }

        private Rider rider(int number) {
            if (!isWithin(number, 0, riderTotal - 1)) {
                throw new IndexOutOfBoundsException("there is no such rider");
            }
            return riders[number];
        }

        private boolean hasAllDrivers() {
            return driverTotal >= MAX_DRIVERS;
        }

        private boolean hasAllRiders() {
            return riderTotal >= MAX_RIDERS;
        }

        /** Only if hasAllDrivers() is false; what the driver was before is still to be set. */
        private Driver nextDriver() {
            driverTotal++;
            return driver(driverTotal - 1);
        }

        /** Only if hasAllRiders() is false; what the rider was before is still to be set. */
        private Rider nextRider() {
            riderTotal++;
            return rider(riderTotal - 1);
        }

        private void freeAssignedRiders() {
            for (int r = 0; r < riderTotal; r++) {
                Rider rider = rider(r);
                if (rider.state == ASSIGNED) {
                    rider.state = WAITING;
                    rider.driver = NONE;
                }
            }
            for (int d = 0; d < driverTotal; d++) {
                Driver driver = driver(d);
                if (!driver.done) {
                    driver.route.beginLike(driver.route);
                }
            }
        }

        private int ridersInGreaterDebt(Rider rider) {
            int before = 0;
            for (int r = 0; r < riderTotal; r++) {
                long credit = rider(r).credit;
                if (credit < rider.credit || credit == rider.credit && r < rider.number) {
                    before++;
                }
            }
            return before;
        }

        private int driversWithRiders() {
            int sum = 0;
            for (int d = 0; d < driverTotal; d++) {
                if (driver(d).route.riderTotal() > 0) {
                    sum++;
                }
            }
            return sum;
        }

        /** Of all drivers, as one without riders has no detour. */
        private int sumOfDetours() {
            int sum = 0;
            for (int d = 0; d < driverTotal; d++) {
                sum += driver(d).route.detourLength();
            }
            return sum;
        }
    }

    /** The search for the best insertion. */
    private static final class Insertion {
        private final Route trial = new Route();
        private final Route bare = new Route();
        private int pickupAfter;
        private int dropAfter;

        /** NONE also if the rider is in this route already. */
        private int extraInRoute(Rider rider, Driver driver) {
            return driver.route.hasRider(rider.number) ? NONE : search(rider, driver, driver.route);
        }

        private int extraAlone(Rider rider, Driver driver) {
            bare.beginLike(driver.route);
            return search(rider, driver, bare);
        }

        /** Assigns a waiting rider, unless there is no extra; returns the extra. */
        private int putIn(Rider rider, Driver driver) {
            int extra = search(rider, driver, driver.route);
            if (extra != NONE) {
                driver.route.insert(rider, pickupAfter, dropAfter);
                rider.state = ASSIGNED;
                rider.driver = driver.number;
            }
            return extra;
        }

        private int search(Rider rider, Driver driver, Route route) {
            if (route.count + 2 > MAX_STOPS) {
                return NONE;
            }
            int room = driver.limit - route.detourLength();
            int best = NONE;
            for (int i = 0; i < route.count - 1; i++) {
                for (int j = i; j < route.count - 1; j++) {
                    int longer = route.lengthening(rider, i, j);
                    if (longer <= room && (best == NONE || longer < best)) {
                        trial.copyFrom(route);
                        trial.insert(rider, i, j);
                        if (trial.keepsSeatsAndDeadlines(driver.seats, driver.departure)) {
                            best = longer;
                            pickupAfter = i;
                            dropAfter = j;
                        }
                    }
                }
            }
            return best;
        }
    }

    /** The solo extras, read once for a call, and the two sides' preferences by them. */
    private static final class Preferences {
        /** By driver and rider; NONE if these do not fit. */
        private final int[][] solo = new int[MAX_DRIVERS][MAX_RIDERS];

        private void read(Board board, Insertion insertion) {
            for (int d = 0; d < board.driverTotal; d++) {
                Driver driver = board.driver(d);
                for (int r = 0; r < board.riderTotal; r++) {
                    solo[d][r] = driver.done ? NONE : insertion.extraAlone(board.rider(r), driver);
                }
            }
        }

        private boolean areFitting(Driver driver, Rider rider) {
            return solo[driver.number][rider.number] != NONE;
        }

        private int price(Driver driver, Rider rider) {
            return solo[driver.number][rider.number] * driver.rate;
        }

        private boolean riderPrefers(Rider rider, Driver one, Driver other) {
            int onePrice = price(one, rider);
            int otherPrice = price(other, rider);
            return onePrice < otherPrice || onePrice == otherPrice && one.number < other.number;
        }

        private boolean driverPrefers(Driver driver, Rider one, Rider other) {
            int oneExtra = solo[driver.number][one.number];
            int otherExtra = solo[driver.number][other.number];
            if (oneExtra != otherExtra) {
                return oneExtra < otherExtra;
            }
            return one.credit > other.credit
                    || one.credit == other.credit && one.number < other.number;
        }

        private int driverAt(Board board, Rider rider, int place) {
            for (int d = 0; d < board.driverTotal; d++) {
                Driver driver = board.driver(d);
                if (areFitting(driver, rider) && driversBefore(board, rider, driver) == place) {
                    return d;
                }
            }
            return NONE;
        }

        private int driversBefore(Board board, Rider rider, Driver driver) {
            int before = 0;
            for (int d = 0; d < board.driverTotal; d++) {
                Driver other = board.driver(d);
                if (areFitting(other, rider) && riderPrefers(rider, other, driver)) {
                    before++;
                }
            }
            return before;
        }

        private int riderAt(Board board, Driver driver, int place) {
            for (int r = 0; r < board.riderTotal; r++) {
                Rider rider = board.rider(r);
                if (isCandidate(driver, rider) && ridersBefore(board, driver, rider) == place) {
                    return r;
                }
            }
            return NONE;
        }

        private int ridersBefore(Board board, Driver driver, Rider rider) {
            int before = 0;
            for (int r = 0; r < board.riderTotal; r++) {
                Rider other = board.rider(r);
                if (isCandidate(driver, other) && driverPrefers(driver, other, rider)) {
                    before++;
                }
            }
            return before;
        }

        /** Whether the two fit and the rider is still to be driven. */
        private boolean isCandidate(Driver driver, Rider rider) {
            return (rider.state == WAITING || rider.state == ASSIGNED) && areFitting(driver, rider);
        }

        private boolean isBlocking(Board board, Driver driver, Rider rider) {
            if (!isCandidate(driver, rider) || rider.driver == driver.number) {
                return false;
            }
            boolean wishes = rider.state == WAITING
                    || riderPrefers(rider, driver, board.driver(rider.driver));
            return wishes && (driver.route.riderTotal() < driver.seats
                    || prefersToSomeAssigned(board, driver, rider));
        }

        private boolean prefersToSomeAssigned(Board board, Driver driver, Rider rider) {
            for (int r = 0; r < board.riderTotal; r++) {
                Rider assigned = board.rider(r);
                if (assigned.driver == driver.number && driverPrefers(driver, rider, assigned)) {
                    return true;
                }
            }
            return false;
        }
    }

    /** Riders ask and drivers hold or refuse, until no rider has anybody left to ask. */
    private static final class Matching {
        /** By rider: the driver who holds the rider. */
        private final int[] holder = new int[MAX_RIDERS];
        /** By rider: the drivers whom the rider has asked, as a bit mask. */
        private final int[] asked = new int[MAX_RIDERS];

        private void run(Board board, Preferences preferences) {
            Arrays.fill(holder, NONE);
            Arrays.fill(asked, 0);
            for (int turn = 0; turn < MAX_DRIVERS * MAX_RIDERS; turn++) {
                if (!letSomeRiderAsk(board, preferences)) {
                    return;
                }
            }
        }

        private boolean letSomeRiderAsk(Board board, Preferences preferences) {
            for (int r = 0; r < board.riderTotal; r++) {
                Rider rider = board.rider(r);
                if (rider.state == WAITING && holder[r] == NONE) {
                    Driver best = bestUnasked(board, preferences, rider);
                    if (best != null) {
                        ask(board, preferences, rider, best);
                        return true;
                    }
                }
            }
            return false;
        }

        private Driver bestUnasked(Board board, Preferences preferences, Rider rider) {
            Driver best = null;
            for (int d = 0; d < board.driverTotal; d++) {
                Driver driver = board.driver(d);
                boolean isOpenQuestion = preferences.areFitting(driver, rider)
                        && (asked[rider.number] >>> d & 1) == 0;
                if (isOpenQuestion
                        && (best == null || preferences.riderPrefers(rider, driver, best))) {
                    best = driver;
                }
            }
            return best;
        }

        private void ask(Board board, Preferences preferences, Rider rider, Driver driver) {
            asked[rider.number] |= 1 << driver.number;
            holder[rider.number] = driver.number;
            int held = 0;
            Rider worst = rider;
            for (int r = 0; r < board.riderTotal; r++) {
                if (holder[r] == driver.number) {
                    held++;
                    if (preferences.driverPrefers(driver, worst, board.rider(r))) {
                        worst = board.rider(r);
                    }
                }
            }
            if (held > driver.seats) {
                holder[worst.number] = NONE;
            }
        }

        /** The rider whom the driver prefers of those held, who is then held no more. */
        private Rider takeBestHeld(Board board, Preferences preferences, Driver driver) {
            Rider best = null;
            for (int r = 0; r < board.riderTotal; r++) {
                if (holder[r] == driver.number) {
                    Rider rider = board.rider(r);
                    if (best == null || preferences.driverPrefers(driver, rider, best)) {
                        best = rider;
                    }
                }
            }
            if (best != null) {
                holder[best.number] = NONE;
            }
            return best;
        }
    }

    /** The division of a trip's cost. */
    private static final class Shares {
        private final int[] ofRider = new int[MAX_RIDERS];
        private final int[] weight = new int[MAX_RIDERS];
        /** The numerators of the fractional parts; NONE for a rider who gets no further cent. */
        private final int[] fraction = new int[MAX_RIDERS];
        private int ofDriver;

        private void divide(Driver driver) {
            int mask = driver.route.riderMask();
            divideBase(mask, driver.route.directLength() * driver.rate);
            divideRest(mask, driver.route.detourLength() * driver.rate, weigh(mask, driver.route));
        }

        private void divideBase(int mask, int base) {
            int heads = Integer.bitCount(mask) + 1;
            int each = base / heads;
            int left = base - each * heads;
            ofDriver = left > 0 ? each + 1 : each;
            left--;
            for (int r = 0; r < MAX_RIDERS; r++) {
                ofRider[r] = 0;
                if (isIn(mask, r)) {
                    ofRider[r] = left > 0 ? each + 1 : each;
                    left--;
                }
            }
        }

        /** Sets the weights and returns their sum, which is 0 only if there are no riders. */
        private int weigh(int mask, Route route) {
            int sum = 0;
            for (int r = 0; r < MAX_RIDERS; r++) {
                weight[r] = isIn(mask, r) ? route.marginalLength(r) : 0;
                sum += weight[r];
            }
            if (sum > 0) {
                return sum;
            }
            for (int r = 0; r < MAX_RIDERS; r++) {
                weight[r] = isIn(mask, r) ? 1 : 0;
            }
            return Integer.bitCount(mask);
        }

        private void divideRest(int mask, int rest, int sum) {
            if (sum <= 0) {
                return;
            }
            int left = rest;
            for (int r = 0; r < MAX_RIDERS; r++) {
                int part = rest * weight[r] / sum;
                fraction[r] = isIn(mask, r) ? rest * weight[r] - part * sum : NONE;
                ofRider[r] += part;
                left -= part;
            }
            for (int cent = 0; cent < left; cent++) {
                giveCent();
            }
        }

        private void giveCent() {
            int best = 0;
            for (int r = 1; r < MAX_RIDERS; r++) {
                if (fraction[r] > fraction[best]) {
                    best = r;
                }
            }
            ofRider[best]++;
            fraction[best] = NONE;
        }

        private static boolean isIn(int mask, int rider) {
            return (mask >>> rider & 1) != 0;
        }
    }

    /** The text buffer. */
    private static final class SetupText {
        private final int[] bytes = new int[MAX_TEXT];
        private int length;

        /** Only if there is room. */
        private void add(int oneByte) {
            if (length < MAX_TEXT) {
                bytes[length] = oneByte;
                length++;
            }
        }

        /** NONE before the start and behind the end. */
        private int byteAt(int index) {
            return 0 <= index && index < length && index < MAX_TEXT ? bytes[index] : NONE;
        }
    }

    /** Reads a setup text, token by token, into a board. */
    private static final class SetupReader {
        private static final int NOT_ALLOWED = 1;
        private static final int OUT_OF_RANGE = 2;
        private static final int TOO_MANY = 3;

        private static final int END = 0;
        private static final int WORD = 1;
        private static final int NUMBER = 2;
        private static final int SEMICOLON = 3;
        private static final int STRANGE = 4;

        private static final int[] DRIVER_LOW = {0, 0, 0, 0, 1, 0, 0, 1};
        private static final int[] DRIVER_HIGH = {MAX_COORDINATE, MAX_COORDINATE, MAX_COORDINATE,
            MAX_COORDINATE, MAX_SEATS, MAX_START_TIME, MAX_DETOUR, MAX_RATE};
        private static final int[] RIDER_LOW = {0, 0, 0, 0, 0, 0};
        private static final int[] RIDER_HIGH = {MAX_COORDINATE, MAX_COORDINATE, MAX_COORDINATE,
            MAX_COORDINATE, MAX_START_TIME, MAX_DEADLINE};
        private static final int[] PENALTY_LOW = {0};
        private static final int[] PENALTY_HIGH = {MAX_CENTS};

        /** Above every range; greater numbers are taken for this one. */
        private static final int HUGE = 10000;

        private final int[] values = new int[8];
        private int faultCode;
        private int faultPosition = NONE;
        private int kind;
        private int start;
        private int end;
        private int value;

        /** Returns the number of statements, or NONE if there is an error. */
        private int read(SetupText text, Board into) {
            into.clear();
            faultCode = 0;
            faultPosition = NONE;
            end = 0;
            int statements = 0;
            nextToken(text);
            // Each statement takes a byte at least, so that this bound is never met.
            for (int turn = 0; turn <= MAX_TEXT && kind != END; turn++) {
                if (!readStatement(text, into)) {
                    return NONE;
                }
                statements++;
                nextToken(text);
            }
            return statements;
        }

        /** From its first word, which is the present token, to its semicolon. */
        private boolean readStatement(SetupText text, Board into) {
            boolean isRead;
            if (isWord(text, "driver")) {
                isRead = readDriver(text, into);
            } else if (isWord(text, "rider")) {
                isRead = readRider(text, into);
            } else if (isWord(text, "penalty")) {
                isRead = readPenalty(text, into);
            } else {
                return fail(NOT_ALLOWED);
            }
            if (!isRead) {
                return false;
            }
            nextToken(text);
            return kind == SEMICOLON || fail(NOT_ALLOWED);
        }

        private boolean readDriver(SetupText text, Board into) {
            if (into.hasAllDrivers()) {
                return fail(TOO_MANY);
            }
            if (!readNumbers(text, DRIVER_LOW, DRIVER_HIGH)) {
                return false;
            }
            Driver driver = into.nextDriver();
            driver.begin(values[4], values[5], values[6], values[7]);
            driver.route.begin(values[0], values[1], values[2], values[3]);
            return true;
        }

        private boolean readRider(SetupText text, Board into) {
            if (into.hasAllRiders()) {
                return fail(TOO_MANY);
            }
            if (!readNumbers(text, RIDER_LOW, RIDER_HIGH)) {
                return false;
            }
            Rider rider = into.nextRider();
            rider.begin(values[4], values[5]);
            rider.setPlaces(values[0], values[1], values[2], values[3]);
            return true;
        }

        private boolean readPenalty(SetupText text, Board into) {
            if (!readNumbers(text, PENALTY_LOW, PENALTY_HIGH)) {
                return false;
            }
            into.penalty = values[0];
            return true;
        }

        /** Reads as many numbers as there are ranges. */
        private boolean readNumbers(SetupText text, int[] low, int[] high) {
            for (int k = 0; k < low.length && k < high.length && k < values.length; k++) {
                nextToken(text);
                if (kind != NUMBER) {
                    return fail(NOT_ALLOWED);
                }
                if (!isWithin(value, low[k], high[k])) {
                    return fail(OUT_OF_RANGE);
                }
                values[k] = value;
            }
            return true;
        }

        private boolean isWord(SetupText text, String word) {
            if (kind != WORD || end - start != word.length()) {
                return false;
            }
            for (int k = 0; k < word.length(); k++) {
                if (text.byteAt(start + k) != word.charAt(k)) {
                    return false;
                }
            }
            return true;
        }

        /** Notes the present token as the wrong one. */
        private boolean fail(int code) {
            faultCode = code;
            faultPosition = start;
            return false;
        }

        private void nextToken(SetupText text) {
            start = end;
            while (start < text.length && isBlank(text.byteAt(start))) {
                start++;
            }
            int first = text.byteAt(start);
            end = start;
            if (first == NONE) {
                kind = END;
            } else if (isLetter(first)) {
                readWord(text);
            } else if (isDigit(first)) {
                readNumber(text);
            } else {
                kind = first == ';' ? SEMICOLON : STRANGE;
                end++;
            }
        }

        private void readWord(SetupText text) {
            kind = WORD;
            while (end < text.length && isLetter(text.byteAt(end))) {
                end++;
            }
        }

        private void readNumber(SetupText text) {
            kind = NUMBER;
            value = 0;
            while (end < text.length && isDigit(text.byteAt(end))) {
                value = Math.min(value * 10 + text.byteAt(end) - '0', HUGE);
                end++;
            }
        }

        private static boolean isBlank(int character) {
            return character == ' ' || character == '\n';
        }

        private static boolean isLetter(int character) {
            return 'a' <= character && character <= 'z';
        }

        private static boolean isDigit(int character) {
            return '0' <= character && character <= '9';
        }
    }
}
