import java.util.concurrent.Callable;

/** Promise by promise: ordinary inputs, the edges that the document names, and wrong inputs. */
public final class PromiseTest {
    private static final Class<?> NO_SUCH = IndexOutOfBoundsException.class;
    private static final Class<?> BAD = IllegalArgumentException.class;
    private static final Class<?> STATE = IllegalStateException.class;
    private static final int NONE = Carpool.NONE;

    private static int promise;
    private static int checks;
    private static int wrong;

    public static void main(String[] args) {
        newObject();
        driversAndRiders();
        routes();
        assigning();
        absentRidersAndReplacements();
        costsAndCredits();
        setupTexts();
        savedStates();
        System.out.println(checks + " checks, " + wrong + " wrong");
        if (wrong != 0) {
            System.exit(1);
        }
    }

    private static void due(String what, long got, long want) {
        checks++;
        if (got != want) {
            wrong++;
            System.out.println("promise " + promise + ": " + what + " answered " + got
                    + ", due is " + want);
        }
    }

    private static void due(String what, boolean got, boolean want) {
        due(what, got ? 1 : 0, want ? 1 : 0);
    }

    private static void fails(String what, Class<?> want, Callable<?> call) {
        checks++;
        String got;
        try {
            got = "answered " + call.call();
        } catch (Exception e) {
            if (e.getClass() == want) {
                return;
            }
            got = "threw " + e;
        }
        wrong++;
        System.out.println("promise " + promise + ": " + what + " " + got + ", due is " + want);
    }

    /** A board with one driver from 0, 50 to 10, 50 who leaves at 100. */
    private static Carpool line(int seats, int limit, int rate) {
        Carpool c = new Carpool();
        addLine(c, seats, limit, rate);
        return c;
    }

    private static int addLine(Carpool c, int seats, int limit, int rate) {
        int driver = c.addDriver(seats, 100, limit, rate);
        c.setTrip(driver, 0, 50, 10, 50);
        return driver;
    }

    /** A rider along the line who is in no hurry. */
    private static int addAlong(Carpool c, int fromX, int toX) {
        return c.addRider(fromX, 50, toX, 50, 0, 9999);
    }

    /** A rider who wants to be at one place, so that the detour is twice the distance to it. */
    private static int addAside(Carpool c, int x, int y) {
        return c.addRider(x, y, x, y, 0, 9999);
    }

    /** Replaces the text, with blanks at its end that are cut off again. */
    private static void write(Carpool c, String text) {
        c.truncateText(0);
        for (int k = 0; k < text.length(); k += 4) {
            int four = 0;
            for (int b = k; b < k + 4; b++) {
                four = four << 8 | (b < text.length() ? text.charAt(b) : ' ');
            }
            c.appendText(four);
        }
        c.truncateText(text.length());
    }

    private static void loads(String text, int statements) {
        Carpool c = new Carpool();
        write(c, text);
        due("load of \"" + text + "\"", c.load(), statements);
        due("its error code", c.errorCode(), 0);
        due("its error position", c.errorPosition(), NONE);
    }

    private static void loadFails(String text, int code, int position) {
        Carpool c = new Carpool();
        c.addDriver(1, 0, 0, 1);
        write(c, text);
        due("load of \"" + text + "\"", c.load(), NONE);
        due("its error code", c.errorCode(), code);
        due("its error position", c.errorPosition(), position);
        due("the board stays", c.driverCount() * 100 + c.riderCount(), 100);
        due("the penalty stays", c.setPenalty(1), 500);
        due("the text is empty", c.load(), 0);
    }

    // ---- promise 1

    private static void newObject() {
        promise = 1;
        Carpool c = new Carpool();
        due("driverCount", c.driverCount(), 0);
        due("riderCount", c.riderCount(), 0);
        due("the penalty", c.setPenalty(3), 500);
        fails("truncateText(1)", BAD, () -> c.truncateText(1));
        fails("restore(0)", STATE, () -> restore(c, 0));
        fails("restore(1)", STATE, () -> restore(c, 1));
        due("errorCode", c.errorCode(), 0);
        due("errorPosition", c.errorPosition(), NONE);
        due("match", c.match(), 0);
        due("blockingPairs", c.blockingPairs(), 0);
        due("debtor(0)", c.debtor(0), NONE);
        due("meanDetourNumerator", c.meanDetourNumerator(), 0);
        due("meanDetourDenominator", c.meanDetourDenominator(), 1);
        due("NONE", Carpool.NONE, -1);
        twoObjects();
    }

    private static void twoObjects() {
        Carpool one = line(1, 40, 3);
        addAside(one, 5, 51);
        one.assign(0, 0);
        one.setPenalty(7);
        one.save(0);
        write(one, "penalty");
        due("load of the one", one.load(), NONE);
        write(one, "penalty 5;");
        Carpool other = new Carpool();
        due("drivers of the other", other.driverCount(), 0);
        due("riders of the other", other.riderCount(), 0);
        due("the other's penalty", other.setPenalty(9), 500);
        due("the other's error code", other.errorCode(), 0);
        due("the other's error position", other.errorPosition(), NONE);
        fails("restore(0) of the other", STATE, () -> restore(other, 0));
        due("load of the other", other.load(), 0);
        addLine(other, 2, 40, 5);
        other.addRider(2, 50, 8, 50, 0, 9999);
        due("match of the other", other.match(), 1);
        other.save(0);
        other.complete(0);
        due("the one's share", one.share(0), 21);
        due("the one's driver is open", one.isDone(0), false);
        due("the one's error code", one.errorCode(), 1);
        one.restore(0);
        due("the one's route", one.routeLength(0), 12);
        due("the one's penalty", one.setPenalty(8), 7);
        due("load of the one", one.load(), 1);
        due("the other's driver is done", other.isDone(0), true);
        due("the other's credit", other.riderCredit(0), -25);
    }

    private static Object restore(Carpool c, int slot) {
        c.restore(slot);
        return "nothing";
    }

    private static Object save(Carpool c, int slot) {
        c.save(slot);
        return "nothing";
    }

    // ---- promises 2 to 11

    private static void driversAndRiders() {
        addDriver();
        setTrip();
        addRider();
        countsAndStates();
        setPenalty();
    }

    private static void addDriver() {
        promise = 2;
        Carpool c = new Carpool();
        fails("seats 0", BAD, () -> c.addDriver(0, 0, 0, 1));
        fails("seats 5", BAD, () -> c.addDriver(5, 0, 0, 1));
        fails("departure -1", BAD, () -> c.addDriver(1, -1, 0, 1));
        fails("departure 1440", BAD, () -> c.addDriver(1, 1440, 0, 1));
        fails("detour -1", BAD, () -> c.addDriver(1, 0, -1, 1));
        fails("detour 401", BAD, () -> c.addDriver(1, 0, 401, 1));
        fails("rate 0", BAD, () -> c.addDriver(1, 0, 0, 0));
        fails("rate 100", BAD, () -> c.addDriver(1, 0, 0, 100));
        fails("far out", BAD, () -> c.addDriver(Integer.MIN_VALUE, 0, 0, Integer.MAX_VALUE));
        due("drivers", c.driverCount(), 0);
        due("the least", c.addDriver(1, 0, 0, 1), 0);
        due("the greatest", c.addDriver(4, 1439, 400, 99), 1);
        due("the start's time", c.arrival(1, 0), 1439);
        due("the place is 0, 0", c.routeLength(1), 0);
        due("stops", c.stopCount(1), 2);
        due("open", c.isDone(1), false);
        due("credit", c.driverCredit(1), 0);
        int rider = c.addRider(0, 0, 0, 0, 0, 9999);
        due("0, 0 is the start and the end", c.soloExtra(rider, 0), 0);
        int far = c.addRider(99, 99, 1, 1, 0, 9999);
        due("the detour limit", c.soloExtra(far, 1), 198 + 196 + 2);
        for (int d = 2; d < 8; d++) {
            due("driver", c.addDriver(2, 5, 5, 5), d);
        }
        fails("the 9th driver", STATE, () -> c.addDriver(2, 5, 5, 5));
        fails("the 9th driver, out of range", BAD, () -> c.addDriver(2, 5, 5, 100));
        due("drivers", c.driverCount(), 8);
    }

    private static void setTrip() {
        promise = 3;
        Carpool c = new Carpool();
        c.addDriver(2, 7, 10, 3);
        due("the direct length", c.setTrip(0, 3, 9, 10, 4), 12);
        due("its arrival", c.arrival(0, 1), 19);
        fails("driver -1", NO_SUCH, () -> c.setTrip(-1, 0, 0, 0, 0));
        fails("driver 1 before the coordinates", NO_SUCH, () -> c.setTrip(1, 100, 0, 0, 0));
        int[] good = {1, 2, 3, 4};
        for (int k = 0; k < 4; k++) {
            for (int value : new int[] {-1, 100, Integer.MIN_VALUE, Integer.MAX_VALUE}) {
                int[] bad = good.clone();
                bad[k] = value;
                fails("coordinate " + k + " as " + value, BAD,
                        () -> c.setTrip(0, bad[0], bad[1], bad[2], bad[3]));
            }
        }
        due("nothing has changed", c.routeLength(0), 12);
        due("across", c.setTrip(0, 99, 0, 0, 99), 198);
        due("nowhere", c.setTrip(0, 99, 99, 99, 99), 0);
        c.setTrip(0, 0, 0, 4, 0);
        due("the start and the end", c.soloExtra(c.addRider(0, 0, 4, 0, 0, 11), 0), 0);
        c.assign(0, 0);
        fails("with a rider", STATE, () -> c.setTrip(0, 0, 0, 1, 1));
        fails("with a rider and a wrong coordinate", BAD, () -> c.setTrip(0, 0, 0, 1, 100));
        due("nothing has changed", c.routeLength(0), 4);
        c.unassign(0);
        due("without the rider", c.setTrip(0, 0, 0, 1, 1), 2);
        c.complete(0);
        fails("when done", STATE, () -> c.setTrip(0, 0, 0, 1, 1));
        fails("when done, with a wrong coordinate", BAD, () -> c.setTrip(0, -1, 0, 1, 1));
    }

    private static void addRider() {
        promise = 4;
        Carpool c = new Carpool();
        int[] good = {1, 2, 3, 4, 5, 6};
        int[] high = {99, 99, 99, 99, 1439, 9999};
        for (int k = 0; k < 6; k++) {
            for (int value : new int[] {-1, high[k] + 1, Integer.MIN_VALUE, Integer.MAX_VALUE}) {
                int[] bad = good.clone();
                bad[k] = value;
                fails("argument " + k + " as " + value, BAD,
                        () -> c.addRider(bad[0], bad[1], bad[2], bad[3], bad[4], bad[5]));
            }
        }
        due("riders", c.riderCount(), 0);
        due("the least", c.addRider(0, 0, 0, 0, 0, 0), 0);
        due("the greatest", c.addRider(99, 99, 99, 99, 1439, 9999), 1);
        due("state", c.riderState(1), 0);
        due("driver", c.driverOf(1), NONE);
        due("credit", c.riderCredit(1), 0);
        for (int r = 2; r < 20; r++) {
            due("rider", c.addRider(1, 2, 3, 4, 5, 6), r);
        }
        fails("the 21st rider", STATE, () -> c.addRider(1, 2, 3, 4, 5, 6));
        fails("the 21st rider, out of range", BAD, () -> c.addRider(1, 2, 3, 4, 5, 10000));
        due("riders", c.riderCount(), 20);
    }

    private static void countsAndStates() {
        Carpool c = new Carpool();
        promise = 5;
        due("drivers", c.driverCount(), 0);
        addLine(c, 2, 20, 1);
        due("drivers", c.driverCount(), 1);
        addLine(c, 2, 20, 1);
        due("drivers", c.driverCount(), 2);
        promise = 6;
        due("riders", c.riderCount(), 0);
        addAlong(c, 2, 8);
        due("riders", c.riderCount(), 1);
        addAlong(c, 3, 9);
        addAlong(c, 4, 5);
        due("riders", c.riderCount(), 3);
        states(c);
        promise = 10;
        for (int r = c.riderCount(); r < 20; r++) {
            addAlong(c, 1, 1);
        }
        due("nobody", c.ridersOf(0), 0);
        c.assign(19, 0);
        due("rider 19", c.ridersOf(0), 1 << 19);
        c.assign(1, 0);
        due("riders 1 and 19", c.ridersOf(0), 1 << 19 | 2);
        c.complete(0);
        due("when done", c.ridersOf(0), 1 << 19 | 2);
        fails("driver -1", NO_SUCH, () -> c.ridersOf(-1));
        fails("driver 2", NO_SUCH, () -> c.ridersOf(2));
    }

    /** Leaves driver 0 open and empty and rider 1 waiting. */
    private static void states(Carpool c) {
        promise = 8;
        due("waiting", c.riderState(0), 0);
        promise = 9;
        due("of a waiting rider", c.driverOf(0), NONE);
        c.assign(0, 1);
        due("of an assigned rider", c.driverOf(0), 1);
        promise = 8;
        due("assigned", c.riderState(0), 1);
        c.assign(1, 1);
        c.noShow(1);
        due("absent", c.riderState(1), 2);
        promise = 9;
        due("of an absent rider", c.driverOf(1), NONE);
        promise = 7;
        due("open", c.isDone(1), false);
        c.complete(1);
        due("done", c.isDone(1), true);
        due("the other", c.isDone(0), false);
        fails("driver -1", NO_SUCH, () -> c.isDone(-1));
        fails("driver 2", NO_SUCH, () -> c.isDone(2));
        promise = 8;
        due("done", c.riderState(0), 3);
        due("absent still", c.riderState(1), 2);
        c.comeBack(1);
        due("back", c.riderState(1), 0);
        fails("rider -1", NO_SUCH, () -> c.riderState(-1));
        fails("rider 3", NO_SUCH, () -> c.riderState(3));
        promise = 9;
        due("of a done rider", c.driverOf(0), 1);
        due("of one who came back", c.driverOf(1), NONE);
        fails("rider -1", NO_SUCH, () -> c.driverOf(-1));
        fails("rider 3", NO_SUCH, () -> c.driverOf(3));
    }

    private static void setPenalty() {
        promise = 11;
        Carpool c = new Carpool();
        due("the first", c.setPenalty(0), 500);
        due("the second", c.setPenalty(9999), 0);
        fails("-1", BAD, () -> c.setPenalty(-1));
        fails("10000", BAD, () -> c.setPenalty(10000));
        due("nothing has changed", c.setPenalty(500), 9999);
    }

    // ---- promises 12 to 19

    private static void routes() {
        stops();
        arrivals();
        lengths();
        extras();
        extrasByTimeAndSeats();
        ties();
        soloExtras();
        bestDriver();
    }

    private static void stops() {
        Carpool c = line(4, 400, 1);
        for (int r = 0; r < 20; r++) {
            addAlong(c, 2, 8);
        }
        promise = 12;
        due("no riders", c.stopCount(0), 2);
        c.assign(19, 0);
        due("one rider", c.stopCount(0), 4);
        fails("driver -1", NO_SUCH, () -> c.stopCount(-1));
        fails("driver 1", NO_SUCH, () -> c.stopCount(1));
        promise = 13;
        due("the start", c.stopRider(0, 0), NONE);
        due("the pickup", c.stopRider(0, 1), 19);
        due("the drop", c.stopRider(0, 2), 119);
        due("the end", c.stopRider(0, 3), NONE);
        fails("driver 1", NO_SUCH, () -> c.stopRider(1, 0));
        fails("driver -1", NO_SUCH, () -> c.stopRider(-1, 0));
        fails("stop -1", NO_SUCH, () -> c.stopRider(0, -1));
        fails("stop 4", NO_SUCH, () -> c.stopRider(0, 4));
        fails("the last stop", NO_SUCH, () -> c.stopRider(0, Integer.MAX_VALUE));
        promise = 12;
        for (int r = 0; r < 19; r++) {
            c.assign(r, 0);
        }
        due("all riders", c.stopCount(0), 42);
        due("all riders", c.ridersOf(0), (1 << 20) - 1);
        promise = 13;
        due("the end", c.stopRider(0, 41), NONE);
        fails("stop 42", NO_SUCH, () -> c.stopRider(0, 42));
    }

    private static void arrivals() {
        promise = 14;
        Carpool c = line(4, 40, 1);
        due("the start", c.arrival(0, 0), 100);
        due("the end", c.arrival(0, 1), 110);
        c.addRider(2, 50, 8, 50, 150, 9999);
        c.assign(0, 0);
        due("the pickup is before the ready time", c.arrival(0, 1), 102);
        due("the drop", c.arrival(0, 2), 156);
        due("the end", c.arrival(0, 3), 158);
        c.addRider(9, 50, 10, 50, 120, 9999);
        c.assign(1, 0);
        due("the second pickup, after the ready time", c.arrival(0, 3), 157);
        due("the second drop", c.arrival(0, 4), 158);
        c.unassign(0);
        due("without the wait of the first", c.arrival(0, 1), 109);
        due("the drop after a shorter wait", c.arrival(0, 2), 121);
        fails("driver 1", NO_SUCH, () -> c.arrival(1, 0));
        fails("driver -1", NO_SUCH, () -> c.arrival(-1, 0));
        fails("stop -1", NO_SUCH, () -> c.arrival(0, -1));
        fails("stop 4", NO_SUCH, () -> c.arrival(0, 4));
    }

    private static void lengths() {
        Carpool c = line(4, 40, 1);
        addAside(c, 5, 53);
        addAside(c, 12, 50);
        promise = 15;
        due("direct", c.routeLength(0), 10);
        c.assign(0, 0);
        due("with a detour", c.routeLength(0), 16);
        c.assign(1, 0);
        due("with two detours", c.routeLength(0), 20);
        fails("driver -1", NO_SUCH, () -> c.routeLength(-1));
        fails("driver 1", NO_SUCH, () -> c.routeLength(1));
        promise = 16;
        due("detour", c.detour(0), 10);
        c.unassign(0);
        due("detour", c.detour(0), 4);
        c.unassign(1);
        due("detour", c.detour(0), 0);
        fails("driver -1", NO_SUCH, () -> c.detour(-1));
        fails("driver 1", NO_SUCH, () -> c.detour(1));
    }

    private static void extras() {
        promise = 17;
        Carpool c = line(4, 20, 1);
        addLine(c, 4, 20, 1);
        addAside(c, 5, 60);
        addAside(c, 5, 61);
        addAside(c, 5, 40);
        addAlong(c, 8, 2);
        due("as much as the limit", c.extra(0, 0), 20);
        due("more than the limit", c.extra(1, 0), NONE);
        due("below the line", c.extra(2, 0), 20);
        due("back and forth", c.extra(3, 0), 12);
        c.assign(0, 0);
        due("in the route", c.extra(0, 0), NONE);
        due("in another route", c.extra(0, 1), 20);
        due("no room beside the present detour", c.extra(2, 0), NONE);
        c.noShow(0);
        due("an absent rider", c.extra(0, 0), 20);
        c.comeBack(0);
        c.assign(0, 0);
        c.complete(0);
        due("done, in the route", c.extra(0, 0), NONE);
        due("a done rider and another driver", c.extra(0, 1), 20);
        addAside(c, 5, 58);
        due("a done driver", c.extra(4, 0), 0);
        due("the route has not changed", c.stopCount(0), 4);
        fails("rider -1", NO_SUCH, () -> c.extra(-1, 0));
        fails("rider 5", NO_SUCH, () -> c.extra(5, 0));
        fails("driver -1", NO_SUCH, () -> c.extra(0, -1));
        fails("driver 2", NO_SUCH, () -> c.extra(0, 2));
    }

    private static void extrasByTimeAndSeats() {
        Carpool c = line(1, 40, 1);
        c.addRider(2, 50, 8, 50, 0, 108);
        c.addRider(2, 50, 8, 50, 0, 107);
        due("at the deadline", c.extra(0, 0), 0);
        due("after the deadline", c.extra(1, 0), NONE);
        c.assign(0, 0);
        addAside(c, 5, 51);
        due("the only seat is taken, so after the drop", c.extra(2, 0), 8);
        addLine(c, 2, 40, 1);
        c.unassign(0);
        c.assign(0, 1);
        due("another seat, but the first one's deadline", c.extra(2, 1), 8);
        addAside(c, 5, 50);
        due("on the way", c.extra(3, 1), 0);
        c.addRider(8, 50, 9, 50, 110, 9999);
        due("a wait after the drop", c.extra(4, 1), 0);
        c.addRider(3, 50, 9, 50, 104, 9999);
        due("a wait of a minute before the drop", c.extra(5, 1), 10);
        c.addRider(9, 50, 9, 50, 200, 199);
        due("ready after the deadline", c.extra(6, 1), NONE);
    }

    private static void ties() {
        promise = 17;
        Carpool c = line(2, 0, 1);
        addAlong(c, 2, 8);
        addAlong(c, 2, 8);
        c.assign(0, 0);
        due("along", c.extra(1, 0), 0);
        c.assign(1, 0);
        due("the least i", c.stopRider(0, 1), 1);
        due("then the pickup", c.stopRider(0, 2), 0);
        due("the least j", c.stopRider(0, 3), 101);
        due("the drop of the first", c.stopRider(0, 4), 100);
        Carpool one = line(1, 0, 1);
        addAlong(one, 2, 8);
        addAlong(one, 8, 8);
        addAlong(one, 2, 2);
        one.assign(0, 0);
        one.assign(1, 0);
        due("not in the full car", one.stopRider(0, 3), 1);
        one.assign(2, 0);
        due("before the first pickup", one.stopRider(0, 1), 2);
        due("i equals j", one.stopRider(0, 2), 102);
    }

    private static void soloExtras() {
        promise = 18;
        Carpool c = line(1, 20, 1);
        addAside(c, 5, 60);
        addAside(c, 5, 40);
        addAside(c, 5, 39);
        c.addRider(4, 50, 5, 50, 150, 151);
        c.addRider(4, 50, 5, 50, 150, 150);
        due("as much as the limit", c.soloExtra(0, 0), 20);
        due("more than the limit", c.soloExtra(2, 0), NONE);
        due("at the deadline", c.soloExtra(3, 0), 0);
        due("after the deadline", c.soloExtra(4, 0), NONE);
        c.assign(0, 0);
        due("in the route", c.soloExtra(0, 0), 20);
        due("as if the driver had no riders", c.soloExtra(1, 0), 20);
        due("the route stays", c.stopCount(0), 4);
        c.complete(0);
        due("a done driver", c.soloExtra(1, 0), 20);
        due("a done rider", c.soloExtra(0, 0), 20);
        fails("rider -1", NO_SUCH, () -> c.soloExtra(-1, 0));
        fails("rider 5", NO_SUCH, () -> c.soloExtra(5, 0));
        fails("driver -1", NO_SUCH, () -> c.soloExtra(0, -1));
        fails("driver 1", NO_SUCH, () -> c.soloExtra(0, 1));
    }

    private static void bestDriver() {
        promise = 19;
        Carpool c = line(2, 20, 1);
        int cheap = addLine(c, 2, 20, 99);
        c.setTrip(cheap, 0, 52, 10, 52);
        addLine(c, 2, 20, 1);
        addAside(c, 5, 52);
        addAside(c, 5, 51);
        due("the least extra, not the least price", c.bestDriver(0), 1);
        due("the lowest number", c.bestDriver(1), 0);
        c.assign(1, 0);
        due("not the own driver", c.bestDriver(1), 1);
        due("an extra of 2 by the present route", c.extra(0, 0), 2);
        c.complete(1);
        due("not a done driver", c.bestDriver(0), 0);
        c.complete(0);
        due("the only open one", c.bestDriver(0), 2);
        c.complete(2);
        due("nobody", c.bestDriver(0), NONE);
        fails("rider -1", NO_SUCH, () -> c.bestDriver(-1));
        fails("rider 2", NO_SUCH, () -> c.bestDriver(2));
    }

    // ---- promises 20 to 25

    private static void assigning() {
        assignAndUnassign();
        match();
        matchWithoutRoom();
        matchOfMany();
        choices();
        blockingPairs();
    }

    private static void assignAndUnassign() {
        promise = 20;
        Carpool c = line(2, 20, 1);
        addLine(c, 2, 20, 1);
        addAside(c, 5, 55);
        addAside(c, 5, 52);
        addAside(c, 5, 99);
        addAside(c, 5, 50);
        due("the extra", c.assign(0, 0), 10);
        due("the extra on the way", c.assign(1, 0), 0);
        due("in the route", c.ridersOf(0), 3);
        fails("rider 4 before all", NO_SUCH, () -> c.assign(4, 0));
        fails("driver -1 and an assigned rider", NO_SUCH, () -> c.assign(0, -1));
        fails("driver 2", NO_SUCH, () -> c.assign(2, 2));
        fails("an assigned rider", STATE, () -> c.assign(0, 1));
        fails("no extra", STATE, () -> c.assign(2, 0));
        c.noShow(1);
        fails("an absent rider", STATE, () -> c.assign(1, 0));
        promise = 21;
        c.comeBack(1);
        c.assign(1, 0);
        fails("a waiting rider", STATE, () -> c.unassign(2));
        fails("rider -1", NO_SUCH, () -> c.unassign(-1));
        fails("rider 4", NO_SUCH, () -> c.unassign(4));
        due("the farther one", c.unassign(0), 6);
        due("waiting", c.riderState(0), 0);
        due("of nobody", c.driverOf(0), NONE);
        due("the other stays", c.ridersOf(0), 2);
        due("the nearer one", c.unassign(1), 4);
        due("two stops", c.stopCount(0), 2);
        c.assign(0, 0);
        c.complete(0);
        fails("a done rider", STATE, () -> c.unassign(0));
        promise = 20;
        fails("a done rider", STATE, () -> c.assign(0, 1));
        fails("a done driver", STATE, () -> c.assign(3, 0));
        due("nothing has changed", c.riderState(3), 0);
        due("the route has not changed", c.ridersOf(0), 1);
    }

    private static void match() {
        promise = 22;
        Carpool c = line(1, 40, 1);
        addLine(c, 1, 40, 2);
        addAside(c, 5, 53);
        addAside(c, 5, 52);
        due("all", c.match(), 2);
        due("refused by the first", c.driverOf(0), 1);
        due("preferred by the first", c.driverOf(1), 0);
        due("no pair blocks", c.blockingPairs(), 0);
        c.noShow(1);
        due("an absent rider takes no part", c.match(), 1);
        due("moves to the better driver", c.driverOf(0), 0);
        due("is absent still", c.riderState(1), 2);
        due("the second is empty", c.stopCount(1), 2);
        c.comeBack(1);
        c.complete(0);
        due("only the open driver", c.match(), 1);
        due("the done route stays", c.ridersOf(0), 1);
        due("a done rider stays", c.riderState(0), 3);
        due("the other one's driver", c.driverOf(1), 1);
        due("the same again", c.match(), 1);
        c.complete(1);
        due("no open driver", c.match(), 0);
    }

    private static void matchWithoutRoom() {
        Carpool c = line(2, 20, 1);
        addAside(c, 5, 60);
        addAside(c, 5, 40);
        due("both fit, but not together", c.match(), 1);
        due("the lower number", c.driverOf(0), 0);
        due("no extra then", c.riderState(1), 0);
        c.pay(1, 1);
        due("again", c.match(), 1);
        due("the higher credit", c.driverOf(1), 0);
        addAside(c, 5, 41);
        due("two of three are held", c.match(), 2);
        due("the lower solo extra first", c.driverOf(2), 0);
        due("then the one on the way", c.driverOf(1), 0);
        due("refused", c.riderState(0), 0);
        due("and nobody's", c.driverOf(0), NONE);
        Carpool order = line(4, 12, 1);
        addAlong(order, 9, 4);
        addAlong(order, 2, 8);
        addAlong(order, 2, 8);
        due("three", order.match(), 3);
        due("the most preferred was first", order.stopRider(0, 2), 1);
        due("the next one came before it", order.stopRider(0, 1), 2);
    }

    private static void matchOfMany() {
        Carpool c = new Carpool();
        for (int d = 0; d < 8; d++) {
            addLine(c, 1, 40, 1 + d);
        }
        for (int r = 0; r < 20; r++) {
            addAside(c, 5, 71 - r);
        }
        due("one for each driver", c.match(), 8);
        for (int d = 0; d < 8; d++) {
            due("the nearer one has the cheaper one", c.driverOf(19 - d), d);
        }
        due("no pair blocks", c.blockingPairs(), 0);
    }

    private static void choices() {
        promise = 23;
        Carpool c = line(1, 40, 3);
        addLine(c, 1, 40, 2);
        addLine(c, 1, 3, 1);
        addLine(c, 1, 40, 3);
        addAside(c, 5, 52);
        addAside(c, 5, 53);
        addAside(c, 5, 48);
        due("the lowest price", c.riderChoice(0, 0), 1);
        due("the lower number", c.riderChoice(0, 1), 0);
        due("the last that fits", c.riderChoice(0, 2), 3);
        due("one that does not fit", c.riderChoice(0, 3), NONE);
        due("a negative place", c.riderChoice(0, -1), NONE);
        due("a far place", c.riderChoice(0, Integer.MAX_VALUE), NONE);
        Carpool prices = line(1, 40, 6);
        addLine(prices, 1, 40, 2);
        prices.setTrip(1, 0, 57, 10, 57);
        addAside(prices, 5, 52);
        due("10 times 2, not 4 times 6", prices.riderChoice(0, 0), 1);
        due("4 times 6", prices.riderChoice(0, 1), 0);
        fails("rider -1", NO_SUCH, () -> c.riderChoice(-1, 0));
        fails("rider 3", NO_SUCH, () -> c.riderChoice(3, 0));
        promise = 24;
        Carpool first = line(1, 4, 1);
        addAside(first, 5, 53);
        addAside(first, 5, 52);
        due("the only one that fits", first.driverChoice(0, 0), 1);
        due("the lowest solo extra", c.driverChoice(0, 0), 0);
        due("an equal one", c.driverChoice(0, 1), 2);
        due("the last", c.driverChoice(0, 2), 1);
        due("no more", c.driverChoice(0, 3), NONE);
        due("a negative place", c.driverChoice(0, -1), NONE);
        due("one who does not fit", c.driverChoice(2, 0), NONE);
        c.pay(2, 1);
        due("the higher credit", c.driverChoice(0, 0), 2);
        c.pay(1, 9999);
        due("the solo extra comes first", c.driverChoice(0, 2), 1);
        c.assign(2, 1);
        due("an assigned rider", c.driverChoice(0, 0), 2);
        c.noShow(2);
        due("not an absent one", c.driverChoice(0, 0), 0);
        promise = 23;
        due("of an absent rider", c.riderChoice(2, 0), 1);
        c.assign(0, 1);
        c.complete(1);
        due("not a done driver", c.riderChoice(2, 0), 0);
        due("of a done rider", c.riderChoice(0, 1), 3);
        promise = 24;
        due("not a done rider", c.driverChoice(0, 0), 1);
        due("of a done driver", c.driverChoice(1, 0), NONE);
        fails("driver -1", NO_SUCH, () -> c.driverChoice(-1, 0));
        fails("driver 4", NO_SUCH, () -> c.driverChoice(4, 0));
    }

    private static void blockingPairs() {
        promise = 25;
        Carpool c = line(1, 40, 2);
        addLine(c, 1, 40, 1);
        addAside(c, 5, 52);
        addAside(c, 5, 53);
        due("all pairs", c.blockingPairs(), 4);
        c.assign(0, 0);
        due("0 wants the cheaper one, 1 only that one can have", c.blockingPairs(), 2);
        c.assign(1, 1);
        due("the cheaper one would rather have 0", c.blockingPairs(), 1);
        c.unassign(0);
        due("0 and both", c.blockingPairs(), 2);
        c.assign(0, 0);
        c.noShow(0);
        due("an absent rider blocks nothing", c.blockingPairs(), 0);
        c.comeBack(0);
        c.pay(0, 500);
        c.unassign(1);
        c.assign(0, 1);
        due("1 and the empty one", c.blockingPairs(), 1);
        c.complete(0);
        due("a done driver blocks nothing", c.blockingPairs(), 0);
        addAside(c, 5, 52);
        due("an equal rider with the higher number", c.blockingPairs(), 0);
        c.pay(2, 1);
        due("with the higher credit", c.blockingPairs(), 1);
        c.complete(1);
        due("all are done", c.blockingPairs(), 0);
        Carpool order = line(1, 40, 1);
        addLine(order, 1, 40, 1);
        addAlong(order, 2, 8);
        addAlong(order, 8, 9);
        order.assign(0, 1);
        order.assign(1, 1);
        Carpool half = line(2, 40, 1);
        addAside(half, 5, 52);
        addAside(half, 5, 53);
        half.assign(0, 0);
        due("a free seat beside a preferred rider", half.blockingPairs(), 1);
        due("more riders than seats; the lower number of equal prices", order.blockingPairs(), 2);
    }

    // ---- promises 26 to 29

    private static void absentRidersAndReplacements() {
        noShowAndComeBack();
        replacement();
        fill();
    }

    private static void noShowAndComeBack() {
        promise = 26;
        Carpool c = line(2, 40, 1);
        addLine(c, 2, 40, 1);
        addAlong(c, 2, 8);
        addAside(c, 5, 55);
        c.assign(0, 1);
        c.assign(1, 1);
        due("the driver", c.noShow(1), 1);
        due("absent", c.riderState(1), 2);
        due("out of the route", c.ridersOf(1), 1);
        due("the length", c.routeLength(1), 10);
        due("the rider's credit", c.riderCredit(1), -500);
        due("the driver's credit", c.driverCredit(1), 500);
        fails("an absent rider", STATE, () -> c.noShow(1));
        c.setPenalty(7);
        due("again", c.noShow(0), 1);
        due("the new penalty", c.riderCredit(0), -7);
        due("in all", c.driverCredit(1), 507);
        fails("rider -1", NO_SUCH, () -> c.noShow(-1));
        fails("rider 2", NO_SUCH, () -> c.noShow(2));
        promise = 27;
        due("the credit", c.comeBack(1), -500);
        due("waiting", c.riderState(1), 0);
        fails("a waiting rider", STATE, () -> c.comeBack(1));
        promise = 26;
        fails("a waiting rider", STATE, () -> c.noShow(1));
        c.assign(1, 0);
        promise = 27;
        fails("an assigned rider", STATE, () -> c.comeBack(1));
        c.complete(0);
        fails("a done rider", STATE, () -> c.comeBack(1));
        fails("rider -1", NO_SUCH, () -> c.comeBack(-1));
        fails("rider 2", NO_SUCH, () -> c.comeBack(2));
        promise = 26;
        fails("a done rider", STATE, () -> c.noShow(1));
        due("the credit without a second penalty", c.driverCredit(1), 507);
    }

    private static void replacement() {
        promise = 28;
        Carpool c = line(2, 20, 1);
        due("no riders", c.replacement(0), NONE);
        addAside(c, 5, 61);
        due("no extra", c.replacement(0), NONE);
        addAside(c, 5, 53);
        addAside(c, 5, 52);
        addAside(c, 5, 48);
        due("the least extra, the lower number", c.replacement(0), 2);
        c.pay(3, 1);
        due("the higher credit", c.replacement(0), 3);
        c.pay(1, 9999);
        due("the extra comes first", c.replacement(0), 3);
        c.pay(2, 5);
        due("a higher credit", c.replacement(0), 2);
        c.assign(1, 0);
        due("by the present route", c.replacement(0), 2);
        c.assign(2, 0);
        due("not an assigned rider", c.replacement(0), 3);
        c.assign(3, 0);
        c.noShow(3);
        due("not an absent rider", c.replacement(0), NONE);
        c.comeBack(3);
        due("one who came back", c.replacement(0), 3);
        c.complete(0);
        due("a done driver", c.replacement(0), NONE);
        fails("driver -1", NO_SUCH, () -> c.replacement(-1));
        fails("driver 1", NO_SUCH, () -> c.replacement(1));
    }

    private static void fill() {
        promise = 29;
        Carpool c = line(1, 20, 1);
        due("nobody waits", c.fill(0), 0);
        addAside(c, 5, 58);
        addAside(c, 5, 48);
        addAside(c, 5, 46);
        addAside(c, 5, 45);
        addAlong(c, 2, 8);
        // First the one along (0), then with one seat those below, before that one: 10, 4, 2.
        due("as many as the limit lets in", c.fill(0), 4);
        due("all but the one above", c.ridersOf(0), 1 << 4 | 1 << 3 | 1 << 2 | 1 << 1);
        due("the detour", c.detour(0), 16);
        due("the last one came first", c.stopRider(0, 1), 3);
        c.unassign(4);
        due("the empty place", c.fill(0), 1);
        due("the same riders", c.ridersOf(0), 1 << 4 | 1 << 3 | 1 << 2 | 1 << 1);
        due("the state", c.riderState(4), 1);
        due("nobody more", c.fill(0), 0);
        c.complete(0);
        due("a done driver", c.fill(0), 0);
        fails("driver -1", NO_SUCH, () -> c.fill(-1));
        fails("driver 1", NO_SUCH, () -> c.fill(1));
        Carpool all = line(1, 0, 1);
        for (int r = 0; r < 20; r++) {
            addAside(all, 5, 50);
        }
        due("all riders", all.fill(0), 20);
    }

    // ---- promises 30 to 40

    private static void costsAndCredits() {
        costs();
        sharesInProportion();
        sharesInEqualProportion();
        complete();
        creditsAndDebtors();
        meanDetour();
    }

    private static void costs() {
        Carpool c = line(4, 40, 7);
        promise = 30;
        due("without riders", c.tripCost(0), 70);
        promise = 33;
        due("without riders", c.driverShare(0), 70);
        addAside(c, 5, 53);
        addAside(c, 5, 53);
        addAside(c, 5, 50);
        promise = 31;
        due("of a waiting rider", c.marginal(0), NONE);
        promise = 32;
        due("of a waiting rider", c.share(0), NONE);
        c.assign(0, 0);
        promise = 31;
        due("alone", c.marginal(0), 6);
        c.assign(1, 0);
        due("shared by two", c.marginal(0), 0);
        promise = 30;
        due("with a detour", c.tripCost(0), 112);
        promise = 33;
        // 70 among three is 23 and one cent, 42 among two equal riders is 21.
        due("the base's cent", c.driverShare(0), 24);
        promise = 32;
        due("equal parts", c.share(0), 44);
        due("equal parts", c.share(1), 44);
        c.assign(2, 0);
        // 70 among four is 17 and two cents; 42 among three is 14.
        promise = 33;
        due("the first cent", c.driverShare(0), 18);
        promise = 32;
        due("the second cent", c.share(0), 18 + 14);
        due("no cent", c.share(1), 17 + 14);
        due("no cent", c.share(2), 17 + 14);
        c.noShow(2);
        due("of an absent rider", c.share(2), NONE);
        promise = 31;
        due("of an absent rider", c.marginal(2), NONE);
        wrongCosts(c);
    }

    private static void sharesInEqualProportion() {
        promise = 32;
        Carpool c = line(4, 40, 1);
        for (int r = 0; r < 5; r++) {
            addAside(c, 5, 51);
        }
        for (int r = 1; r < 4; r++) {
            c.assign(r, 0);
        }
        // 10 among four is 2 and two cents; 2 among three is 0 and two cents.
        due("two cents", c.share(1), 2 + 1 + 1);
        due("one cent", c.share(2), 2 + 1);
        due("no cent", c.share(3), 2);
        due("of a waiting rider", c.share(0), NONE);
        promise = 33;
        due("a cent", c.driverShare(0), 3);
        promise = 34;
        due("the sum", c.complete(0), 9);
    }

    private static void wrongCosts(Carpool c) {
        fails("rider -1", NO_SUCH, () -> c.marginal(-1));
        fails("rider 3", NO_SUCH, () -> c.marginal(3));
        promise = 30;
        fails("driver -1", NO_SUCH, () -> c.tripCost(-1));
        fails("driver 1", NO_SUCH, () -> c.tripCost(1));
        promise = 32;
        fails("rider -1", NO_SUCH, () -> c.share(-1));
        fails("rider 3", NO_SUCH, () -> c.share(3));
        promise = 33;
        fails("driver -1", NO_SUCH, () -> c.driverShare(-1));
        fails("driver 1", NO_SUCH, () -> c.driverShare(1));
    }

    private static void sharesInProportion() {
        // 2 above the line, 1 below and 1 above: the marginal detours are 4, 4 and 2.
        int[][] due = {
            // The rate, the base's part of the driver, the shares.
            {1, 3, 3 + 3, 2 + 3, 2 + 2},
            {2, 5, 5 + 7, 5 + 6, 5 + 3},
            {3, 8, 8 + 10, 7 + 9, 7 + 5},
            {4, 10, 10 + 13, 10 + 13, 10 + 6},
        };
        for (int[] row : due) {
            Carpool c = line(4, 40, row[0]);
            addAside(c, 2, 52);
            addAside(c, 5, 49);
            addAside(c, 8, 51);
            for (int r = 0; r < 3; r++) {
                c.assign(r, 0);
            }
            promise = 30;
            due("the cost", c.tripCost(0), 18 * row[0]);
            promise = 31;
            due("the first", c.marginal(0), 4);
            due("the second", c.marginal(1), 4);
            due("the third", c.marginal(2), 2);
            promise = 32;
            for (int r = 0; r < 3; r++) {
                due("rider " + r + " at the rate " + row[0], c.share(r), row[2 + r]);
            }
            promise = 33;
            due("at the rate " + row[0], c.driverShare(0), row[1]);
        }
    }

    private static void complete() {
        promise = 34;
        Carpool c = line(4, 40, 3);
        addLine(c, 4, 40, 5);
        addAside(c, 2, 52);
        addAside(c, 5, 49);
        addAside(c, 8, 51);
        addAside(c, 8, 51);
        for (int r = 0; r < 3; r++) {
            c.assign(r, 0);
        }
        c.assign(3, 1);
        c.pay(1, 100);
        due("the sum", c.complete(0), 18 + 16 + 12);
        due("the first", c.riderCredit(0), -18);
        due("the second", c.riderCredit(1), 100 - 16);
        due("the third", c.riderCredit(2), -12);
        due("the other driver's rider", c.riderCredit(3), 0);
        due("the driver's credit", c.driverCredit(0), 46);
        due("the driver is done", c.isDone(0), true);
        due("the rider is done", c.riderState(2), 3);
        due("the other rider is not", c.riderState(3), 1);
        due("the route stays", c.stopCount(0), 8);
        fails("again", STATE, () -> c.complete(0));
        due("nothing has changed", c.driverCredit(0), 46);
        promise = 32;
        due("of a done rider", c.share(1), 16);
        promise = 31;
        due("of a done rider", c.marginal(1), 4);
        promise = 33;
        due("of a done driver", c.driverShare(0), 8);
        promise = 30;
        due("of a done driver", c.tripCost(0), 54);
        promise = 34;
        c.noShow(3);
        due("without riders", c.complete(1), 0);
        due("the penalty alone", c.driverCredit(1), 500);
        due("done", c.isDone(1), true);
        fails("driver -1", NO_SUCH, () -> c.complete(-1));
        fails("driver 2", NO_SUCH, () -> c.complete(2));
    }

    private static void creditsAndDebtors() {
        Carpool c = line(1, 40, 1);
        for (int r = 0; r < 4; r++) {
            addAlong(c, 2, 8);
        }
        promise = 37;
        due("the least", c.pay(0, -9999), -9999);
        due("again", c.pay(0, -9999), -19998);
        due("the greatest", c.pay(1, 9999), 9999);
        due("nothing", c.pay(1, 0), 9999);
        fails("-10000", BAD, () -> c.pay(0, -10000));
        fails("10000", BAD, () -> c.pay(0, 10000));
        fails("the least number", BAD, () -> c.pay(0, Integer.MIN_VALUE));
        fails("rider -1", NO_SUCH, () -> c.pay(-1, 0));
        fails("rider 4 before the amount", NO_SUCH, () -> c.pay(4, 10000));
        promise = 35;
        due("after the payments", c.riderCredit(0), -19998);
        due("without a payment", c.riderCredit(2), 0);
        fails("rider -1", NO_SUCH, () -> c.riderCredit(-1));
        fails("rider 4", NO_SUCH, () -> c.riderCredit(4));
        promise = 36;
        due("at first", c.driverCredit(0), 0);
        fails("driver -1", NO_SUCH, () -> c.driverCredit(-1));
        fails("driver 1", NO_SUCH, () -> c.driverCredit(1));
        promise = 38;
        due("the greatest debt", c.debtor(0), 0);
        due("of equal ones the lower number", c.debtor(1), 2);
        due("the next", c.debtor(2), 3);
        due("the highest credit", c.debtor(3), 1);
        due("no more", c.debtor(4), NONE);
        due("a negative place", c.debtor(-1), NONE);
        due("the least place", c.debtor(Integer.MIN_VALUE), NONE);
        due("the greatest place", c.debtor(Integer.MAX_VALUE), NONE);
        c.assign(3, 0);
        c.noShow(3);
        due("an absent rider", c.debtor(1), 3);
        c.assign(1, 0);
        c.complete(0);
        due("a done rider", c.debtor(3), 1);
        promise = 36;
        // The base is 10; the driver and the rider pay 5 each.
        due("the penalty and a share", c.driverCredit(0), 505);
    }

    private static void mean(String what, Carpool c, int numerator, int denominator) {
        promise = 39;
        due(what, c.meanDetourNumerator(), numerator);
        promise = 40;
        due(what, c.meanDetourDenominator(), denominator);
    }

    private static void meanDetour() {
        Carpool c = new Carpool();
        mean("no drivers", c, 0, 1);
        for (int d = 0; d < 5; d++) {
            addLine(c, 4, 40, 1);
        }
        mean("no riders", c, 0, 1);
        addAside(c, 5, 50);
        addAside(c, 5, 50);
        addAside(c, 5, 51);
        addAside(c, 5, 52);
        c.assign(0, 0);
        mean("no detour", c, 0, 1);
        c.assign(1, 1);
        mean("no detours", c, 0, 1);
        c.assign(2, 2);
        mean("2 of three", c, 2, 3);
        c.assign(3, 3);
        mean("6 of four", c, 3, 2);
        c.complete(3);
        mean("a done driver", c, 3, 2);
        c.unassign(0);
        c.unassign(1);
        mean("6 of two", c, 3, 1);
        c.unassign(2);
        mean("4 of one", c, 4, 1);
        c.assign(2, 0);
        mean("the first driver's too", c, 3, 1);
    }

    // ---- promises 41 to 45

    private static void setupTexts() {
        textBuffer();
        goodTexts();
        loadedBoard();
        loadedNumbers();
        wrongTokens();
        wrongNumbers();
        tooMany();
    }

    private static void textBuffer() {
        promise = 41;
        Carpool c = new Carpool();
        for (int k = 1; k <= 150; k++) {
            due("four blanks more", c.appendText(0x20202020), 4 * k);
        }
        fails("beyond 600", STATE, () -> c.appendText(0x20202020));
        promise = 42;
        fails("-1", BAD, () -> c.truncateText(-1));
        fails("601", BAD, () -> c.truncateText(601));
        due("the present length", c.truncateText(600), 600);
        due("a shorter one", c.truncateText(597), 597);
        fails("longer again", BAD, () -> c.truncateText(598));
        promise = 41;
        fails("one byte beyond 600", STATE, () -> c.appendText(0));
        promise = 42;
        due("the text has not changed", c.truncateText(596), 596);
        promise = 41;
        due("up to 600", c.appendText(0x20202041), 600);
        due("the last byte is wrong", c.load(), NONE);
        due("the lowest byte is the last", c.errorPosition(), 599);
        due("the buffer is empty", c.appendText(0x20410A20), 4);
        due("a byte is wrong", c.load(), NONE);
        due("the highest byte is the first", c.errorPosition(), 1);
        c.appendText(-1);
        due("a byte above 127", c.load(), NONE);
        due("its code", c.errorCode(), 1);
        due("its position", c.errorPosition(), 0);
        promise = 42;
        c.appendText(0x20202041);
        due("without the last byte", c.truncateText(3), 3);
        due("blanks alone", c.load(), 0);
        fails("an empty text", BAD, () -> c.truncateText(1));
        c.appendText(0x41202020);
        due("to nothing", c.truncateText(0), 0);
        due("the empty text", c.load(), 0);
    }

    private static void goodTexts() {
        promise = 43;
        loads("", 0);
        loads(" \n \n", 0);
        loads("penalty 7;", 1);
        loads("\npenalty7 ;", 1);
        loads("penalty\n0;penalty 9999;", 2);
        loads("penalty 000000000000000000000000000000000000099;", 1);
        loads("driver 0 0 0 0 1 0 0 1;", 1);
        loads("driver99 99 99 99 4 1439 400 99;", 1);
        loads("rider 0 0 0 0 0 0;rider 99 99 99 99 1439 9999;", 2);
        loads("driver 1\n2 3 4 1 5 6 7 ; rider 1 2 3 4 5 6 ;penalty 1 ;\n", 3);
        loads("penalty " + "0".repeat(590) + "1;", 1);
        loads("driver 0 0 0 0 1 0 0 1;".repeat(8), 8);
        loads("rider 0 0 0 0 0 0;".repeat(20), 20);
    }

    private static void loadedBoard() {
        promise = 43;
        Carpool c = line(2, 20, 1);
        addAlong(c, 2, 8);
        addAlong(c, 2, 8);
        c.assign(0, 0);
        c.noShow(0);
        c.assign(1, 0);
        c.complete(0);
        c.setPenalty(3);
        c.save(0);
        write(c, "driver 1 2 13 4 3 50 6 7; rider 1 2 3 4 5 60; penalty 8; penalty 9;");
        due("the statements", c.load(), 4);
        due("the drivers", c.driverCount(), 1);
        due("the riders", c.riderCount(), 1);
        due("the driver is open", c.isDone(0), false);
        due("the driver's credit", c.driverCredit(0), 0);
        due("the rider waits", c.riderState(0), 0);
        due("the rider is nobody's", c.driverOf(0), NONE);
        due("the rider's credit", c.riderCredit(0), 0);
        due("the direct length", c.routeLength(0), 14);
        due("the departure", c.arrival(0, 0), 50);
        due("the route", c.stopCount(0), 2);
        due("the rate", c.tripCost(0), 98);
        due("the deadline", c.soloExtra(0, 0), 0);
        due("the last penalty", c.setPenalty(1), 9);
        c.addRider(1, 2, 1, 6, 0, 9999);
        c.addRider(1, 2, 1, 8, 0, 9999);
        c.addRider(2, 2, 14, 2, 0, 9999);
        due("the detour limit", c.soloExtra(1, 0), 4);
        due("the detour limit", c.soloExtra(2, 0), NONE);
        due("the end", c.soloExtra(3, 0), 2);
        c.addRider(1, 2, 3, 4, 0, 53);
        due("before the deadline", c.soloExtra(4, 0), NONE);
        write(c, "rider 4 4 4 4 4 4; driver 7 7 7 8 1 1 1 1;");
        due("a text without a penalty", c.load(), 2);
        due("the first penalty", c.setPenalty(1), 500);
        due("the rider waits", c.riderState(0), 0);
        due("the rider is nobody's", c.driverOf(0), NONE);
        due("the rider's credit", c.riderCredit(0), 0);
        due("the driver is open", c.isDone(0), false);
        due("the driver's credit", c.driverCredit(0), 0);
        due("the route", c.stopCount(0), 2);
        due("the direct length", c.routeLength(0), 1);
        c.restore(0);
        due("the saved state stays", c.driverCount() * 10 + c.riderCount(), 12);
        due("the saved penalty", c.setPenalty(1), 3);
        write(c, "rider 4 4 4 4 4 4; x");
        due("an error", c.load(), NONE);
        due("the board stays", c.driverCount() * 10 + c.riderCount(), 12);
        due("the credit stays", c.riderCredit(0), -500);
        due("the route stays", c.ridersOf(0), 2);
        due("the penalty stays", c.setPenalty(1), 1);
        promise = 44;
        due("the code", c.errorCode(), 1);
        due("the code again", c.errorCode(), 1);
        promise = 45;
        due("the position", c.errorPosition(), 19);
        due("an empty text then", c.load(), 0);
        due("no position", c.errorPosition(), NONE);
        promise = 44;
        due("no code", c.errorCode(), 0);
    }

    private static void loadedNumbers() {
        promise = 43;
        Carpool c = new Carpool();
        write(c, "driver 0 0 10 0 2 5 48 7; driver 0 0 10 0 2 5 47 7;"
                + "rider 1 2 30 4 55 86; rider 1 2 30 4 55 85; rider 1 2 30 4 56 86;"
                + "rider 1 0 9 0 0 999; rider 1 0 9 0 0 999; rider 1 0 9 0 0 999;");
        due("the statements", c.load(), 8);
        due("the places", c.soloExtra(0, 0), 3 + 31 + 24 - 10);
        due("the detour limit", c.soloExtra(0, 1), NONE);
        due("the deadline", c.soloExtra(1, 0), NONE);
        due("the ready time", c.soloExtra(2, 0), NONE);
        due("the first seat", c.assign(3, 0), 0);
        due("the second seat", c.assign(4, 0), 0);
        due("no third seat", c.extra(5, 0), 16);
    }

    private static void wrongTokens() {
        promise = 44;
        loadFails(";", 1, 0);
        loadFails(" 7", 1, 1);
        loadFails("Driver 0 0 0 0 1 0 0 1;", 1, 0);
        loadFails("drivers 0 0 0 0 1 0 0 1;", 1, 0);
        loadFails("drive", 1, 0);
        loadFails("penaltz 5;", 1, 0);
        loadFails("penaltyz 5;", 1, 0);
        loadFails("penaltya 5;", 1, 0);
        loadFails("kenalty 5;", 1, 0);
        loadFails("\nriderx", 1, 1);
        loadFails("penalty", 1, 7);
        loadFails("penalty ", 1, 8);
        loadFails("penalty 5", 1, 9);
        loadFails("penalty 5\n ", 1, 11);
        loadFails("penalty ;", 1, 8);
        loadFails("penalty x;", 1, 8);
        loadFails("penalty 5 6;", 1, 10);
        loadFails("penalty 5x;", 1, 9);
        loadFails("penalty 5 penalty 5;", 1, 10);
        loadFails("penalty 5;;", 1, 10);
        loadFails("penalty 5,", 1, 9);
        loadFails("penalty\t5;", 1, 7);
        loadFails("penalty -5;", 1, 8);
        loadFails("penalty 5.0;", 1, 9);
        loadFails("pen alty 5;", 1, 0);
        loadFails("penalty 5; driver 1 1 1 1 1 1 1 1; rider 1 1 1 1 1; penalty 6;", 1, 50);
        loadFails("driver 1 1 1 1 1 1 1;", 1, 20);
        loadFails("driver 1 1 1 1 1 1 1 1 1;", 1, 23);
        loadFails("rider 1 1 1 1 1 1 1;", 1, 18);
        loadFails("{", 1, 0);
        loadFails("`", 1, 0);
        loadFails("penalty 5:", 1, 9);
        loadFails("penalty 5/", 1, 9);
        loadFails(" ".repeat(599) + "a", 1, 599);
    }

    private static void wrongNumbers() {
        promise = 44;
        loadFails("penalty 10000;", 2, 8);
        loadFails("penalty 10000", 2, 8);
        loadFails("penalty 10000x", 2, 8);
        loadFails("penalty 4294967296;", 2, 8);
        loadFails("penalty 18446744073709551617;", 2, 8);
        loadFails("penalty 000010000;", 2, 8);
        loadFails("penalty " + "9".repeat(591) + ";", 2, 8);
        int[] low = {0, 0, 0, 0, 1, 0, 0, 1};
        int[] high = {99, 99, 99, 99, 4, 1439, 400, 99};
        for (int k = 0; k < 8; k++) {
            String before = "driver " + "1 ".repeat(k);
            String after = " 1".repeat(7 - k) + ";";
            loads(before + low[k] + after, 1);
            loads(before + high[k] + after, 1);
            loadFails(before + (high[k] + 1) + after, 2, before.length());
            if (low[k] == 1) {
                loadFails(before + "0" + after, 2, before.length());
            }
        }
        int[] riderHigh = {99, 99, 99, 99, 1439, 9999};
        for (int k = 0; k < 6; k++) {
            String before = "rider " + "0 ".repeat(k);
            String after = " 0".repeat(5 - k) + ";";
            loads(before + riderHigh[k] + after, 1);
            loadFails(before + (riderHigh[k] + 1) + after, 2, before.length());
        }
    }

    private static void tooMany() {
        promise = 44;
        String drivers = "driver 0 0 0 0 1 0 0 1;".repeat(8);
        loadFails(drivers + "driver 0 0 0 0 1 0 0 1;", 3, drivers.length());
        loadFails(drivers + " driver", 3, drivers.length() + 1);
        loadFails(drivers + "driver 100", 3, drivers.length());
        loadFails(drivers + "drivers", 1, drivers.length());
        String riders = "rider 0 0 0 0 0 0;".repeat(20);
        loadFails(riders + "rider 0 0 0 0 0 0;", 3, riders.length());
        loadFails(riders + "rider;", 3, riders.length());
        loadFails(drivers + riders + "rider;", 3, drivers.length() + riders.length());
        loadFails(riders + "driver;", 1, riders.length() + 6);
    }

    // ---- promises 46 and 47

    private static void savedStates() {
        promise = 46;
        Carpool c = line(2, 20, 1);
        addAside(c, 5, 52);
        addAlong(c, 2, 8);
        c.assign(0, 0);
        c.setPenalty(42);
        c.noShow(0);
        c.comeBack(0);
        c.assign(0, 0);
        c.pay(0, 5);
        fails("slot -1", BAD, () -> save(c, -1));
        fails("slot 2", BAD, () -> save(c, 2));
        promise = 47;
        fails("slot 0 before a save", STATE, () -> restore(c, 0));
        promise = 46;
        c.save(1);
        promise = 47;
        fails("slot -1", BAD, () -> restore(c, -1));
        fails("slot 2", BAD, () -> restore(c, 2));
        fails("slot 0, where nothing is", STATE, () -> restore(c, 0));
        c.assign(1, 0);
        c.complete(0);
        c.setPenalty(1);
        addLine(c, 1, 2, 3);
        addAside(c, 5, 50);
        c.save(0);
        c.restore(1);
        checkSavedState(c);
        c.noShow(0);
        c.fill(0);
        c.unassign(1);
        c.setTrip(0, 1, 1, 2, 2);
        addAside(c, 5, 50);
        c.setPenalty(7);
        c.restore(1);
        due("it stays saved", c.riderState(0), 1);
        due("the penalty", c.setPenalty(42), 42);
        checkSavedState(c);
        c.restore(0);
        due("the other state: drivers", c.driverCount(), 2);
        due("riders", c.riderCount(), 3);
        due("done", c.isDone(0), true);
        due("done", c.riderState(1), 3);
        due("the route", c.ridersOf(0), 3);
        due("the penalty", c.setPenalty(9), 1);
        c.restore(1);
        promise = 46;
        c.save(0);
        promise = 47;
        c.noShow(0);
        c.restore(0);
        checkSavedState(c);
        textAndErrorsStay(c);
    }

    private static void checkSavedState(Carpool c) {
        due("drivers", c.driverCount(), 1);
        due("riders", c.riderCount(), 2);
        due("open", c.isDone(0), false);
        due("assigned", c.riderState(0), 1);
        due("waiting", c.riderState(1), 0);
        due("the driver", c.driverOf(0), 0);
        due("the stops", c.stopCount(0), 4);
        due("the pickup", c.stopRider(0, 1), 0);
        due("the length", c.routeLength(0), 14);
        due("the arrival", c.arrival(0, 3), 114);
        due("the rider's credit", c.riderCredit(0), 5 - 42);
        due("the driver's credit", c.driverCredit(0), 42);
        due("the rider's place", c.soloExtra(0, 0), 4);
        due("the penalty", c.setPenalty(42), 42);
    }

    private static void textAndErrorsStay(Carpool c) {
        write(c, "penalty;");
        c.load();
        write(c, "penalty 3;");
        c.restore(0);
        due("the code stays", c.errorCode(), 1);
        due("the position stays", c.errorPosition(), 7);
        due("the text stays", c.truncateText(10), 10);
        due("and can be read", c.load(), 1);
        due("the penalty", c.setPenalty(0), 3);
        c.restore(0);
        checkSavedState(c);
    }
}
