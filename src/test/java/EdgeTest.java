import java.lang.reflect.InvocationTargetException;
import java.util.Arrays;

/**
 * Sentence by sentence of the document: each one that names a boundary case, an argument or an
 * answer has a test of its own, headed by its words. A test is one or more runs of calls, each on a
 * new object, written a call a line: "call = answer", "call ! exception", or the call alone, which
 * must not throw. A call that throws must change nothing: that is looked at for each such line.
 */
public final class EdgeTest {
    private static final int CALLS_OF_AN_OBJECT = 512;
    private static final String OUT = " ! IllegalArgumentException\n";

    private static int sentences;
    private static int checks;
    private static int wrong;

    public static void main(String[] args) {
        allCallsOfAnObject();
        placesAndTimes();
        driversAndRiders();
        routes();
        validRoutes();
        insertions();
        preferences();
        matching();
        blockingPairs();
        costs();
        setups();
        setupErrors();
        everyExceptionOnOneBoard();
        orderOfExceptions();
        noSuchDrivers();
        noSuchRiders();
        promises1To6();
        promises7To11();
        promises12To16();
        promises17To19();
        promises20And21();
        promises22To25();
        promises26And27();
        promises28And29();
        promises30To34();
        promises35To38();
        promises39And40();
        promises41And42();
        promise43();
        promises44And45();
        promises46And47();
        whatIsAdded();
        whatCallsReturn();
        whatTextCallsReturn();
        anyStateAndPlace();
        System.out.println(sentences + " sentences, " + checks + " checks, " + wrong + " wrong");
        if (wrong != 0) {
            System.exit(1);
        }
    }

    // ---- how a run is read

    private static void sentence(String words, String... runs) {
        sentences++;
        for (String run : runs) {
            new Play(words, run).play();
        }
    }

    /** One run on one object. */
    private static final class Play {
        private final String words;
        private final String[] lines;
        private final Board board = new Board();

        Play(String words, String run) {
            this.words = words;
            lines = run.split("\n");
        }

        void play() {
            for (int k = 0; k < lines.length; k++) {
                String line = lines[k];
                String got = board.answer(callOf(line));
                String due = dueOf(line);
                check(line, due == null ? !got.startsWith("!") : got.equals(due), got);
                if (got.startsWith("!")) {
                    checkThatNothingChanges(k);
                }
            }
            check("the calls of a run", board.calls <= CALLS_OF_AN_OBJECT, "" + board.calls);
        }

        /** The state is looked at with and without the call, by two objects of their own. */
        private void checkThatNothingChanges(int last) {
            Board with = new Board();
            Board without = new Board();
            for (int k = 0; k <= last; k++) {
                String call = callOf(lines[k]);
                String answer = with.answer(call);
                if (!answer.startsWith("!")) {
                    without.answer(call);
                }
            }
            String got = with.state();
            String due = without.state();
            check("nothing is changed by " + lines[last], got.equals(due),
                    "\n    " + got + "\n    " + due + "\n");
            check("the calls of a look", with.calls <= CALLS_OF_AN_OBJECT, "" + with.calls);
        }

        private void check(String what, boolean good, String got) {
            checks++;
            if (!good) {
                wrong++;
                System.out.println("\"" + words + "\": " + what + " -- got " + got);
            }
        }

        private static String callOf(String line) {
            return isText(line) ? line : line.split(" [=!] ")[0];
        }

        private static String dueOf(String line) {
            String[] parts = line.split(" (?=[=!] )");
            return isText(line) || parts.length < 2 ? null : parts[1];
        }

        private static boolean isText(String line) {
            return line.startsWith("text");
        }
    }

    /** An object, and short words for calls that are made often. */
    private static final class Board {
        private final Carpool carpool = new Carpool();
        private int calls;

        String answer(String call) {
            if (call.startsWith("text")) {
                return write(call.substring(4).replaceFirst(" ", ""));
            }
            String[] words = call.split(" +");
            int[] numbers = Arrays.stream(words).skip(1)
                    .mapToInt(w -> (int) (long) Long.decode(w)).toArray();
            return switch (words[0]) {
                // A driver from 0, 50 to 10, 50 who leaves at 100.
                case "line" -> line(numbers[0], numbers[1], numbers[2]);
                // A rider along that line who is in no hurry.
                case "along" -> call("addRider", numbers[0], 50, numbers[1], 50, 0, 9999);
                // A rider who wants to be at one place: the detour is twice the distance to it.
                case "aside" -> call("addRider", numbers[0], numbers[1], numbers[0], numbers[1],
                        0, 9999);
                default -> call(words[0], numbers);
            };
        }

        private String call(String name, int... numbers) {
            calls++;
            Class<?>[] types = new Class<?>[numbers.length];
            Arrays.fill(types, int.class);
            try {
                Object got = Carpool.class.getMethod(name, types)
                        .invoke(carpool, Arrays.stream(numbers).boxed().toArray());
                return "= " + got;
            } catch (InvocationTargetException e) {
                return "! " + e.getCause().getClass().getSimpleName();
            } catch (ReflectiveOperationException e) {
                throw new AssertionError(e);
            }
        }

        private String line(int seats, int limit, int rate) {
            String driver = call("addDriver", seats, 100, limit, rate);
            call("setTrip", Integer.parseInt(driver.substring(2)), 0, 50, 10, 50);
            return driver;
        }

        /** In the words of a line \n is a line feed, \t a tab and \0 the byte 0. */
        private String write(String words) {
            String text = words.replace("\\n", "\n").replace("\\t", "\t").replace("\\0", "\0");
            call("truncateText", 0);
            for (int k = 0; k < text.length(); k += 4) {
                int four = 0;
                for (int b = k; b < k + 4; b++) {
                    four = four << 8 | (b < text.length() ? text.charAt(b) : ' ');
                }
                call("appendText", four);
            }
            return call("truncateText", text.length());
        }

        /** All that can be seen; the look itself changes the object. */
        String state() {
            StringBuilder seen = new StringBuilder();
            look(seen);
            seen.append(" codes ").append(call("errorCode")).append(call("errorPosition"));
            seen.append(" text ").append(call("appendText", 0x20202020));
            for (int length = 600; length > 596; length--) {
                seen.append(call("truncateText", length));
            }
            seen.append(call("load")).append(call("errorCode")).append(call("errorPosition"));
            for (int slot = 0; slot < 2; slot++) {
                seen.append(" slot ").append(call("restore", slot)).append(call("driverCount"))
                        .append(call("riderCount")).append(call("ridersOf", 0))
                        .append(call("riderCredit", 0)).append(call("setPenalty", 0));
            }
            return seen.toString();
        }

        private void look(StringBuilder seen) {
            for (int d = 0; d < carpool.driverCount(); d++) {
                seen.append(" driver ").append(d).append(call("isDone", d))
                        .append(call("ridersOf", d)).append(call("driverCredit", d))
                        .append(call("driverShare", d)).append(call("routeLength", d));
                for (int stop = 0; stop < Math.min(8, carpool.stopCount(d)); stop++) {
                    seen.append(call("stopRider", d, stop)).append(call("arrival", d, stop));
                }
            }
            for (int r = 0; r < carpool.riderCount(); r++) {
                seen.append(" rider ").append(r).append(call("riderState", r))
                        .append(call("driverOf", r)).append(call("riderCredit", r))
                        .append(call("share", r)).append(call("bestDriver", r))
                        .append(call("riderChoice", r, 0)).append(call("debtor", r));
            }
            seen.append(" penalty ").append(call("setPenalty", 0));
        }
    }

    /** The call with one argument as small and as great as allowed, then beside that and far. */
    private static String bounds(String call, int argument, int low, int high) {
        return with(call, argument, low) + "\n" + with(call, argument, high) + "\n"
                + outside(call, argument, low, high);
    }

    private static String outside(String call, int argument, int low, int high) {
        return with(call, argument, low - 1) + OUT + with(call, argument, high + 1) + OUT
                + with(call, argument, Integer.MIN_VALUE) + OUT
                + with(call, argument, Integer.MAX_VALUE) + OUT;
    }

    private static String with(String call, int argument, int value) {
        String[] words = call.split(" ");
        words[argument] = Integer.toString(value);
        return String.join(" ", words);
    }

    /** The call with numbers of which there is no driver, rider, stop or the like. */
    private static String noneSuch(String call, int argument, int count) {
        String lines = "";
        for (int value : new int[] {-1, count, Integer.MIN_VALUE, Integer.MAX_VALUE}) {
            lines += with(call, argument, value) + " ! IndexOutOfBoundsException\n";
        }
        return lines;
    }

    private static String times(int count, String line) {
        return (line + "\n").repeat(count);
    }

    // ---- what it is

    private static void allCallsOfAnObject() {
        sentence("An object is used for at most 512 calls after it has been made",
                times(511, "setPenalty 7") + "setPenalty 8 = 7",
                "line 4 40 1\n" + times(20, "aside 5 51")
                + times(97, "match\nsave 1\nfill 0\nrestore 1\nblockingPairs = 0")
                + "match = 4\nfill 0 = 16\nstopCount 0 = 42\nstopRider 0 1 = 19\nshare 8 = 1");
    }

    // ---- places and times

    private static void placesAndTimes() {
        for (int k = 2; k <= 5; k++) {
            sentence("A place is a pair of coordinates x and y, 0 to 99 each.",
                    "addDriver 1 0 0 1\n" + bounds("setTrip 0 1 2 3 4", k, 0, 99)
                    + "setTrip 0 1 2 3 4 = 4\n",
                    bounds("addRider 1 2 3 4 5 6", k - 1, 0, 99) + "riderCount = 2");
        }
        sentence("The distance of two places is the sum of the absolute differences of their "
                + "coordinates.", """
                addDriver 1 0 0 1
                setTrip 0 0 0 99 99 = 198
                setTrip 0 99 99 0 0 = 198
                setTrip 0 99 0 0 99 = 198
                setTrip 0 0 99 99 0 = 198
                setTrip 0 5 7 5 7 = 0
                setTrip 0 5 7 6 7 = 1
                setTrip 0 5 7 4 7 = 1
                setTrip 0 5 7 5 8 = 1
                setTrip 0 5 7 5 6 = 1
                """);
        sentence("Times are minutes, 0 to 9999.", """
                addDriver 1 0 0 1
                addRider 0 0 0 0 0 0 = 0
                addRider 0 0 0 0 1 0 = 1
                addRider 0 0 0 0 1439 9999 = 2
                soloExtra 0 0 = 0
                soloExtra 1 0 = -1
                soloExtra 2 0 = 0
                assign 2 0
                arrival 0 2 = 1439
                """);
        sentence("A car moves by a distance of 1 in each minute.", """
                addDriver 1 1439 0 1
                setTrip 0 0 0 99 99
                arrival 0 1 = 1637
                setTrip 0 0 0 0 1
                arrival 0 1 = 1440
                setTrip 0 9 9 9 9
                arrival 0 1 = 1439
                """);
    }

    // ---- drivers and riders

    private static void driversAndRiders() {
        sentence("There are at most 8 drivers, numbered from 0.", """
                addDriver 1 0 0 1 = 0
                addDriver 1 0 0 1 = 1
                addDriver 1 0 0 1 = 2
                addDriver 1 0 0 1 = 3
                addDriver 1 0 0 1 = 4
                addDriver 1 0 0 1 = 5
                addDriver 1 0 0 1 = 6
                addDriver 1 0 0 1 = 7
                addDriver 1 0 0 1 ! IllegalStateException
                driverCount = 8
                """);
        sentence("A driver has a start and an end (places), seats for riders (1 to 4), "
                + "a departure time (0 to 1439), a detour limit (0 to 400), a rate (1 to 99 cents "
                + "for a distance of 1), and is OPEN (at first) or DONE.",
                bounds("addDriver 2 3 4 5", 1, 1, 4), bounds("addDriver 2 3 4 5", 2, 0, 1439),
                bounds("addDriver 2 3 4 5", 3, 0, 400), bounds("addDriver 2 3 4 5", 4, 1, 99), """
                addDriver 4 1439 400 99 = 0
                isDone 0 = false
                complete 0 = 0
                isDone 0 = true
                """);
        sentence("There are at most 20 riders, numbered from 0.",
                "addRider 0 0 0 0 0 0 = 0\n" + times(18, "addRider 1 2 3 4 5 6")
                + "addRider 9 9 9 9 9 9 = 19\naddRider 0 0 0 0 0 0 ! IllegalStateException\n"
                + "riderCount = 20");
        sentence("A rider has an origin and a destination (places), a ready time (0 to 1439) and "
                + "a deadline (0 to 9999).",
                bounds("addRider 1 2 3 4 5 6", 5, 0, 1439),
                bounds("addRider 1 2 3 4 5 6", 6, 0, 9999));
        sentence("A rider is WAITING (0, at first), ASSIGNED to a driver (1), ABSENT (2) or "
                + "DONE (3).", """
                line 1 0 1
                along 1 2
                riderState 0 = 0
                assign 0 0
                riderState 0 = 1
                noShow 0
                riderState 0 = 2
                comeBack 0
                assign 0 0
                complete 0
                riderState 0 = 3
                """);
        sentence("Each driver and each rider has a credit in cents (0 at first; it may be "
                + "negative).", """
                line 1 0 1
                along 1 2
                driverCredit 0 = 0
                riderCredit 0 = 0
                pay 0 -1 = -1
                riderCredit 0 = -1
                pay 0 1 = 0
                """);
        sentence("The penalty is an amount in cents (0 to 9999, 500 at first).",
                "setPenalty 500 = 500\n" + bounds("setPenalty 1", 1, 0, 9999)
                + "setPenalty 7 = 9999");
    }

    // ---- routes

    private static void routes() {
        sentence("the start, then for each rider assigned to the driver a pickup (at the origin) "
                + "and, somewhere later, a drop (at the destination), and the end", """
                line 1 40 1
                addRider 3 52 6 47 0 9999
                assign 0 0 = 10
                stopCount 0 = 4
                stopRider 0 0 = -1
                stopRider 0 1 = 0
                stopRider 0 2 = 100
                stopRider 0 3 = -1
                arrival 0 1 = 105
                arrival 0 2 = 113
                arrival 0 3 = 120
                """);
        sentence("Without riders it consists of the start and the end.", """
                addDriver 1 30 0 1
                setTrip 0 3 4 5 6
                stopCount 0 = 2
                stopRider 0 0 = -1
                stopRider 0 1 = -1
                arrival 0 0 = 30
                arrival 0 1 = 34
                routeLength 0 = 4
                detour 0 = 0
                ridersOf 0 = 0
                tripCost 0 = 4
                driverShare 0 = 4
                """, """
                line 1 0 1
                along 2 8
                assign 0 0
                unassign 0
                stopCount 0 = 2
                stopRider 0 1 = -1
                arrival 0 1 = 110
                stopRider 0 2 ! IndexOutOfBoundsException
                arrival 0 2 ! IndexOutOfBoundsException
                """);
        sentence("The length of a route is the sum of the distances between stops that follow "
                + "each other.", """
                line 1 40 1
                along 8 2
                routeLength 0 = 10
                assign 0 0 = 12
                routeLength 0 = 22
                """);
        sentence("The direct length is the distance from the start to the end.", """
                line 1 40 1
                aside 5 51
                assign 0 0
                routeLength 0 = 12
                detour 0 = 2
                """);
        sentence("The detour is the length minus the direct length.", """
                addDriver 1 0 40 1
                aside 3 4
                assign 0 0 = 14
                detour 0 = 14
                routeLength 0 = 14
                """);
        sentence("The driver leaves the start at the departure time.", """
                addDriver 1 0 0 1
                addDriver 1 1439 0 1
                arrival 0 0 = 0
                arrival 1 0 = 1439
                addRider 0 0 0 0 0 9999
                assign 0 1
                arrival 1 1 = 1439
                """);
        sentence("The arrival at a stop is the time at which the driver leaves the stop before, "
                + "plus the distance.", """
                line 2 0 1
                addRider 2 50 8 50 150 9999
                addRider 4 50 6 50 160 9999
                assign 0 0
                assign 1 0
                arrival 0 1 = 102
                arrival 0 2 = 152
                arrival 0 3 = 162
                arrival 0 4 = 164
                arrival 0 5 = 166
                """);
        sentence("The driver leaves a pickup at the arrival or at the rider's ready time, "
                + "whichever is later, and a drop at the arrival.", """
                line 1 0 1
                addRider 2 50 8 50 101 9999
                addRider 2 50 8 50 102 9999
                addRider 2 50 8 50 103 9999
                assign 0 0
                arrival 0 1 = 102
                arrival 0 2 = 108
                arrival 0 3 = 110
                unassign 0
                assign 1 0
                arrival 0 2 = 108
                unassign 1
                assign 2 0
                arrival 0 1 = 102
                arrival 0 2 = 109
                arrival 0 3 = 111
                """);
    }

    private static void validRoutes() {
        sentence("A route is valid if the detour is at most the detour limit", """
                line 1 20 1
                aside 5 60
                aside 5 61
                soloExtra 0 0 = 20
                soloExtra 1 0 = -1
                extra 0 0 = 20
                extra 1 0 = -1
                """, """
                line 1 19 1
                aside 5 59
                aside 5 60
                extra 0 0 = 18
                extra 1 0 = -1
                """, """
                line 1 0 1
                aside 5 50
                aside 5 51
                extra 0 0 = 0
                extra 1 0 = -1
                """, """
                addDriver 1 0 400 1
                addDriver 1 0 399 1
                addRider 99 99 99 99 0 9999
                addRider 0 2 2 0 0 9999
                addRider 5 4 4 5 0 9999
                assign 0 0 = 396
                assign 1 0 = 4
                detour 0 = 400
                extra 2 0 = -1
                unassign 1 = 4
                extra 2 0 = 2
                unassign 0
                assign 0 1 = 396
                extra 1 1 = -1
                extra 2 1 = 2
                """, """
                line 2 20 1
                aside 5 53
                aside 5 43
                aside 5 42
                assign 0 0 = 6
                extra 1 0 = 14
                extra 2 0 = -1
                """);
        sentence("the arrival at each drop is at most the rider's deadline", """
                line 1 0 1
                addRider 2 50 8 50 0 108
                addRider 2 50 8 50 0 107
                extra 0 0 = 0
                extra 1 0 = -1
                soloExtra 0 0 = 0
                soloExtra 1 0 = -1
                """, """
                line 2 40 1
                addRider 2 50 8 50 0 112
                aside 5 52
                aside 5 53
                assign 0 0
                extra 1 0 = 4
                extra 2 0 = 12
                """, """
                line 1 0 1
                addRider 2 50 8 50 200 206
                addRider 2 50 8 50 200 205
                addRider 8 50 2 50 0 0
                extra 0 0 = 0
                extra 1 0 = -1
                extra 2 0 = -1
                """, """
                line 2 0 1
                addRider 2 50 8 50 0 108
                addRider 4 50 4 50 104 9999
                addRider 4 50 4 50 105 9999
                addRider 8 50 8 50 999 9999
                assign 0 0
                extra 1 0 = 0
                extra 2 0 = -1
                extra 3 0 = 0
                """);
        sentence("at no time more riders are in the car than it has seats", """
                line 1 0 1
                along 2 8
                along 2 8
                along 7 9
                along 8 10
                along 0 2
                assign 0 0 = 0
                extra 1 0 = -1
                extra 2 0 = -1
                extra 3 0 = 0
                extra 4 0 = 0
                """, """
                line 2 0 1
                along 2 8
                along 3 9
                along 4 5
                assign 0 0 = 0
                assign 1 0 = 0
                extra 2 0 = -1
                """, """
                line 3 0 1
                along 2 8
                along 2 8
                along 2 8
                along 2 8
                assign 0 0 = 0
                assign 1 0 = 0
                assign 2 0 = 0
                extra 3 0 = -1
                """, """
                line 4 0 1
                along 2 8
                along 2 8
                along 2 8
                along 2 8
                along 2 8
                assign 0 0 = 0
                assign 1 0 = 0
                assign 2 0 = 0
                assign 3 0 = 0
                extra 4 0 = -1
                ridersOf 0 = 15
                """);
    }

    private static String inserted(String first, String second, String stops) {
        String[] due = stops.split(" ");
        return "line 2 0 1\n" + first + "\n" + second + "\nassign 0 0 = 0\nassign 1 0 = 0\n"
                + "stopRider 0 1 = " + due[0] + "\nstopRider 0 2 = " + due[1]
                + "\nstopRider 0 3 = " + due[2] + "\nstopRider 0 4 = " + due[3];
    }

    private static void insertions() {
        sentence("for 0 <= i <= j <= m, the pickup comes directly after stop i, and the drop "
                + "directly after stop j, or after the pickup if i equals j",
                inserted("along 2 8", "along 0 1", "1 101 0 100"),
                inserted("along 2 8", "along 1 4", "1 0 101 100"),
                inserted("along 2 8", "along 1 9", "1 0 100 101"),
                inserted("along 2 8", "along 3 7", "0 1 101 100"),
                inserted("along 2 8", "along 3 9", "0 1 100 101"),
                inserted("along 2 8", "along 9 10", "0 100 1 101"));
        sentence("the order of the other stops stays", """
                line 2 40 1
                along 8 8
                along 9 1
                along 3 3
                assign 0 0 = 0
                assign 1 0 = 16
                stopRider 0 1 = 1
                stopRider 0 2 = 101
                stopRider 0 3 = 0
                stopRider 0 4 = 100
                assign 2 0 = 0
                stopRider 0 1 = 2
                stopRider 0 2 = 102
                stopRider 0 3 = 1
                stopRider 0 4 = 101
                stopRider 0 5 = 0
                stopRider 0 6 = 100
                """);
        sentence("The best insertion is the valid one with the least length, of several the one "
                + "with the least i, then with the least j.",
                inserted("along 2 8", "along 2 8", "1 0 101 100"),
                inserted("along 2 8", "along 1 8", "1 0 101 100"),
                inserted("along 2 8", "along 2 9", "1 0 100 101"),
                inserted("along 2 8", "along 2 2", "1 101 0 100"),
                inserted("along 2 8", "along 8 8", "0 1 101 100"),
                inserted("along 2 2", "along 2 2", "1 101 0 100"),
                inserted("along 8 8", "along 2 8", "1 101 0 100"),
                inserted("along 2 8", "addRider 2 50 8 50 101 9999", "1 0 101 100"),
                inserted("addRider 2 50 2 50 0 102", "addRider 2 50 2 50 103 999",
                        "0 100 1 101"), """
                line 1 0 1
                along 2 8
                along 8 8
                along 2 2
                assign 0 0 = 0
                assign 1 0 = 0
                stopRider 0 3 = 1
                assign 2 0 = 0
                stopRider 0 1 = 2
                stopRider 0 2 = 102
                """);
        sentence("The extra of a rider and a driver is the length with the best insertion minus "
                + "the present length; there is none if no insertion is valid.", """
                line 2 20 1
                aside 5 58
                aside 5 57
                aside 5 47
                aside 5 48
                assign 0 0 = 16
                extra 1 0 = 0
                extra 2 0 = -1
                extra 3 0 = 4
                assign 2 0 ! IllegalStateException
                """);
        sentence("The solo extra is the extra if the driver had no riders.", """
                line 1 20 1
                aside 5 58
                aside 5 57
                aside 5 42
                assign 0 0
                soloExtra 0 0 = 16
                soloExtra 1 0 = 14
                soloExtra 2 0 = 16
                extra 2 0 = -1
                """);
    }

    // ---- preferences and matching

    private static void preferences() {
        sentence("A rider and a driver fit if the driver is OPEN and there is a solo extra.", """
                line 1 20 1
                aside 5 60
                aside 5 61
                aside 5 40
                riderChoice 0 0 = 0
                riderChoice 1 0 = -1
                driverChoice 0 0 = 0
                driverChoice 0 1 = 2
                driverChoice 0 2 = -1
                assign 0 0
                extra 2 0 = -1
                riderChoice 2 0 = 0
                complete 0
                soloExtra 2 0 = 20
                riderChoice 2 0 = -1
                driverChoice 0 0 = -1
                """);
        sentence("The price of a rider and a driver is the solo extra times the driver's rate.", """
                line 1 40 7
                line 1 40 2
                setTrip 1 0 57 10 57
                aside 5 52
                aside 5 53
                soloExtra 0 0 = 4
                soloExtra 0 1 = 10
                riderChoice 0 0 = 1
                soloExtra 1 0 = 6
                soloExtra 1 1 = 8
                riderChoice 1 0 = 1
                """);
        sentence("A rider prefers the driver with the lower price, of equal prices the one with "
                + "the lower number.", """
                line 1 40 3
                line 1 40 2
                setTrip 1 0 55 10 55
                aside 5 52
                aside 5 50
                aside 5 55
                riderChoice 0 0 = 0
                riderChoice 0 1 = 1
                riderChoice 1 0 = 0
                riderChoice 2 0 = 1
                """, """
                line 1 40 99
                line 1 40 1
                aside 5 50
                riderChoice 0 0 = 0
                riderChoice 0 1 = 1
                """, """
                line 1 40 2
                line 1 40 3
                setTrip 0 0 55 10 55
                aside 5 52
                riderChoice 0 0 = 0
                riderChoice 0 1 = 1
                """);
        sentence("A driver prefers the rider with the lower solo extra, of equal ones the one "
                + "with the higher credit, then the one with the lower number.", """
                line 1 40 1
                aside 5 53
                aside 5 52
                aside 5 48
                driverChoice 0 0 = 1
                driverChoice 0 1 = 2
                driverChoice 0 2 = 0
                pay 0 9999
                driverChoice 0 2 = 0
                pay 2 1
                driverChoice 0 0 = 2
                pay 1 1
                driverChoice 0 0 = 1
                pay 1 -2
                pay 2 -3
                driverChoice 0 0 = 1
                pay 2 2
                driverChoice 0 0 = 2
                """);
    }

    private static void matching() {
        sentence("The matching begins with no driver holding anybody.", """
                line 1 40 1
                aside 5 53
                aside 5 52
                assign 0 0
                match = 1
                driverOf 0 = -1
                driverOf 1 = 0
                """);
        sentence("As long as some rider who takes part is held by nobody and has not asked all "
                + "drivers that fit, the rider asks the best driver (by own preference) whom the "
                + "rider has not asked yet.", """
                line 1 40 1
                line 1 40 2
                line 1 40 3
                aside 5 54
                aside 5 53
                aside 5 52
                aside 5 55
                match = 3
                driverOf 0 = 2
                driverOf 1 = 1
                driverOf 2 = 0
                driverOf 3 = -1
                riderState 3 = 0
                """, """
                line 1 6 1
                line 1 8 2
                aside 5 53
                aside 5 54
                aside 5 52
                match = 2
                driverOf 0 = 1
                driverOf 1 = -1
                driverOf 2 = 0
                """, """
                line 1 0 1
                aside 5 51
                match = 0
                riderState 0 = 0
                """);
        sentence("That driver holds the rider; if the driver then holds more riders than there "
                + "are seats, the driver refuses the one that the driver prefers least.", """
                line 2 40 1
                aside 5 54
                aside 5 53
                match = 2
                aside 5 52
                match = 2
                driverOf 0 = -1
                ridersOf 0 = 6
                aside 5 52
                match = 2
                ridersOf 0 = 12
                aside 5 52
                match = 2
                ridersOf 0 = 12
                pay 4 1
                match = 2
                ridersOf 0 = 20
                """, """
                line 4 40 1
                along 2 8
                along 2 8
                along 2 8
                along 2 8
                along 2 8
                match = 4
                ridersOf 0 = 15
                """);
        sentence("(The result does not depend on the order in which riders ask.)", """
                line 1 40 1
                line 1 40 1
                setTrip 1 0 53 10 53
                aside 5 50
                aside 5 51
                aside 5 52
                match = 2
                driverOf 0 = 0
                driverOf 1 = -1
                driverOf 2 = 1
                """, """
                line 1 40 1
                line 1 40 1
                setTrip 1 0 53 10 53
                aside 5 52
                aside 5 51
                aside 5 50
                match = 2
                driverOf 2 = 0
                driverOf 1 = -1
                driverOf 0 = 1
                """);
    }

    private static void blockingPairs() {
        sentence("A blocking pair is a WAITING or ASSIGNED rider and a driver who fit", """
                line 2 20 1
                line 2 20 1
                aside 5 60
                aside 5 61
                blockingPairs = 2
                assign 0 1
                blockingPairs = 1
                noShow 0
                blockingPairs = 0
                comeBack 0
                blockingPairs = 2
                assign 0 1
                complete 1
                blockingPairs = 0
                aside 5 60
                blockingPairs = 1
                complete 0
                blockingPairs = 0
                """);
        sentence("the rider is not assigned to this driver", """
                line 2 20 1
                aside 5 60
                assign 0 0
                blockingPairs = 0
                """);
        sentence("the rider is WAITING or prefers this driver to the present one", """
                line 2 20 1
                line 2 20 1
                line 2 20 2
                aside 5 60
                blockingPairs = 3
                assign 0 0
                blockingPairs = 0
                unassign 0
                assign 0 1
                blockingPairs = 1
                unassign 0
                assign 0 2
                blockingPairs = 2
                """);
        sentence("the driver has fewer riders than seats or prefers the rider to some rider who "
                + "is assigned to the driver", """
                line 2 40 1
                aside 5 52
                aside 5 53
                aside 5 54
                aside 5 53
                assign 1 0
                blockingPairs = 3
                assign 2 0
                blockingPairs = 2
                unassign 2
                assign 0 0
                blockingPairs = 0
                pay 3 1
                blockingPairs = 1
                pay 1 1
                blockingPairs = 0
                unassign 1
                assign 3 0
                blockingPairs = 1
                pay 3 1
                blockingPairs = 0
                """, """
                line 1 40 1
                aside 5 54
                aside 5 53
                aside 5 55
                assign 0 0
                blockingPairs = 1
                """, """
                line 2 40 1
                aside 5 54
                aside 5 52
                aside 5 53
                assign 0 0
                assign 1 0
                blockingPairs = 1
                """, """
                line 1 40 1
                along 2 4
                along 6 8
                along 1 1
                assign 0 0
                assign 1 0
                ridersOf 0 = 3
                blockingPairs = 0
                pay 2 1
                blockingPairs = 1
                """);
    }

    // ---- costs

    private static void costs() {
        sentence("The cost of a trip is the length of the route times the rate.", """
                addDriver 1 0 400 99
                tripCost 0 = 0
                setTrip 0 0 0 99 99
                tripCost 0 = 19602
                addRider 99 99 0 0 0 9999
                assign 0 0 = 396
                tripCost 0 = 58806
                share 0 = 49005
                driverShare 0 = 9801
                """);
        sentence("The marginal detour of an assigned rider is the length of the route minus its "
                + "length without the two stops of this rider.", """
                line 4 40 1
                aside 5 55
                aside 5 53
                addRider 2 50 5 57 0 9999
                assign 0 0
                marginal 0 = 10
                assign 1 0
                marginal 0 = 4
                marginal 1 = 0
                assign 2 0 = 4
                marginal 0 = 0
                marginal 1 = 0
                marginal 2 = 4
                """, """
                line 2 40 1
                addRider 2 53 4 50 0 9999
                addRider 6 50 8 46 0 9999
                assign 0 0
                assign 1 0
                marginal 0 = 6
                marginal 1 = 8
                detour 0 = 14
                """);
        sentence("each gets base / (n + 1), rounded down, and of what remains, one cent each goes "
                + "to the driver first and then to the riders by ascending number", """
                line 4 0 1
                along 1 1
                along 1 1
                along 1 1
                along 1 1
                driverShare 0 = 10
                assign 3 0
                driverShare 0 = 5
                share 3 = 5
                assign 1 0
                driverShare 0 = 4
                share 1 = 3
                share 3 = 3
                assign 2 0
                driverShare 0 = 3
                share 1 = 3
                share 2 = 2
                share 3 = 2
                assign 0 0
                driverShare 0 = 2
                share 0 = 2
                share 3 = 2
                """, """
                addDriver 4 0 0 1
                setTrip 0 0 0 0 2
                addRider 0 0 0 0 0 9999
                addRider 0 0 0 0 0 9999
                addRider 0 0 0 0 0 9999
                assign 2 0
                assign 1 0
                assign 0 0
                driverShare 0 = 1
                share 0 = 1
                share 1 = 0
                share 2 = 0
                setPenalty 0
                noShow 0
                share 0 = -1
                share 1 = 1
                share 2 = 0
                """, """
                addDriver 4 0 0 1
                setTrip 0 0 0 0 3
                addRider 0 0 0 0 0 9999
                assign 0 0
                driverShare 0 = 2
                share 0 = 1
                """, """
                addDriver 4 0 0 99
                addRider 0 0 0 0 0 9999
                assign 0 0
                driverShare 0 = 0
                share 0 = 0
                """);
        sentence("in equal proportion if all of these are 0", """
                line 4 40 1
                aside 5 51
                aside 5 51
                assign 1 0
                assign 0 0
                marginal 0 = 0
                marginal 1 = 0
                share 0 = 4
                share 1 = 4
                driverShare 0 = 4
                aside 5 50
                assign 2 0
                marginal 2 = 0
                driverShare 0 = 3
                share 0 = 4
                share 1 = 3
                share 2 = 2
                """, """
                line 4 40 2
                aside 5 51
                aside 5 51
                aside 5 51
                assign 2 0
                assign 1 0
                assign 0 0
                driverShare 0 = 5
                share 0 = 7
                share 1 = 6
                share 2 = 6
                """, """
                line 4 40 1
                aside 5 51
                aside 5 50
                assign 0 0
                assign 1 0
                marginal 0 = 2
                marginal 1 = 0
                share 0 = 5
                share 1 = 3
                driverShare 0 = 4
                """);
        sentence("each rider gets the exact part rounded down, and of what remains, one cent each "
                + "goes to the riders with the greatest fractional parts, of equal ones to the "
                + "lower number first",
                proportion(1, "3 6 5 4"), proportion(2, "5 12 11 8"), proportion(3, "8 18 16 12"),
                proportion(4, "10 23 23 16"), proportion(5, "13 29 28 20"));
        sentence("The share of a rider or driver is the sum of what both rules give.", """
                line 3 40 7
                aside 2 52
                aside 5 47
                aside 8 50
                assign 0 0 = 4
                assign 1 0 = 6
                assign 2 0 = 0
                tripCost 0 = 140
                driverShare 0 = 18
                share 0 = 46
                share 1 = 59
                share 2 = 17
                complete 0 = 122
                riderCredit 0 = -46
                driverShare 0 = 18
                """, """
                line 1 40 7
                driverShare 0 = 70
                complete 0 = 0
                driverCredit 0 = 0
                """);
        sentence("For DONE drivers and riders the route stays as it was, so that their shares can "
                + "still be asked.", """
                line 4 40 3
                aside 5 51
                aside 5 51
                assign 0 0
                assign 1 0
                complete 0 = 26
                stopCount 0 = 6
                stopRider 0 1 = 1
                arrival 0 5 = 112
                routeLength 0 = 12
                ridersOf 0 = 3
                driverOf 1 = 0
                share 0 = 13
                share 1 = 13
                driverShare 0 = 10
                marginal 0 = 0
                tripCost 0 = 36
                match = 0
                ridersOf 0 = 3
                share 0 = 13
                """);
    }

    /** Marginal detours of 4, 4 and 2 in a detour of 8; the driver's share and the riders'. */
    private static String proportion(int rate, String shares) {
        String[] due = shares.split(" ");
        return "line 4 40 " + rate + "\naside 2 52\naside 5 49\naside 8 51\n"
                + "assign 0 0\nassign 1 0\nassign 2 0\n"
                + "detour 0 = 8\nmarginal 0 = 4\nmarginal 1 = 4\nmarginal 2 = 2\n"
                + "tripCost 0 = " + 18 * rate + "\ndriverShare 0 = " + due[0]
                + "\nshare 0 = " + due[1] + "\nshare 1 = " + due[2] + "\nshare 2 = " + due[3];
    }

    // ---- setup texts

    private static String loads(String text, int statements) {
        return "text " + text + "\nload = " + statements
                + "\nerrorCode = 0\nerrorPosition = -1\nload = 0";
    }

    /** The board that was there before stays. */
    private static String fails(String text, int code, int position) {
        return "addDriver 2 3 4 5\nsetPenalty 77\ntext " + text + "\nload = -1"
                + "\nerrorCode = " + code + "\nerrorPosition = " + position
                + "\ndriverCount = 1\nriderCount = 0\nsetPenalty 1 = 77\nload = 0";
    }

    private static void setups() {
        sentence("A setup is an ASCII text that is collected in a text buffer of at most 600 "
                + "bytes.",
                times(149, "appendText 0x20202020") + "appendText 0x20202020 = 600\n"
                + "appendText 0x20202020 ! IllegalStateException\nload = 0",
                fails("\u0080", 1, 0), fails("\u00ff", 1, 0), fails("\\0", 1, 0),
                fails("penalt\u00f9 5;", 1, 0), fails("penalty \u00b5;", 1, 8));
        sentence("Its tokens are words (maximal runs of the letters a to z), numbers (maximal runs "
                + "of the digits 0 to 9) and the symbol ;.",
                loads("penalty5;penalty6;", 2), loads("driver0 0 0 0 1 0 0 1;", 1),
                fails("pen alty 5;", 1, 0), fails("penalty1 2;", 1, 9), fails("penaltyx 5;", 1, 0),
                fails("penaltya 5;", 1, 0), fails("penaltyz 5;", 1, 0),
                fails("zpenalty 5;", 1, 0), fails("apenalty 5;", 1, 0),
                fails("driver 01 001;", 1, 13), fails("penalty 5driver", 1, 9),
                fails("`", 1, 0), fails("{", 1, 0), fails("penalty /", 1, 8),
                fails("penalty :", 1, 8), fails("penalty 5:", 1, 9), fails("penalty 5,", 1, 9),
                fails("Penalty 5;", 1, 0), fails("penaltY 5;", 1, 0),
                loads("penalty 1234;", 1), loads("penalty 5678;", 1), loads("penalty 9;", 1));
        sentence("Spaces (byte 32) and line feeds (byte 10) may stand before, between and behind "
                + "tokens.",
                loads(" penalty 5;", 1), loads("\\npenalty 5;", 1), loads("penalty  \\n\\n 5;", 1),
                loads("penalty\\n5 ;", 1), loads("penalty 5\\n;", 1), loads("penalty 5; ", 1),
                loads("penalty 5;\\n", 1), loads("penalty 5; penalty 5;\\npenalty 6;", 3),
                fails("\\tpenalty 5;", 1, 0), fails("penalty\\t5;", 1, 7),
                fails("penalty 5\\t;", 1, 9), fails("penalty 5;\\t", 1, 10),
                fails("penalty\u00a05;", 1, 7), fails("penalty\r5;", 1, 7));
        sentence("Numbers may have any number of digits.",
                loads("penalty " + "0".repeat(591) + ";", 1),
                "text penalty " + "0".repeat(587) + "9999;\nload = 1\nsetPenalty 1 = 9999",
                fails("penalty " + "0".repeat(586) + "10000;", 2, 8),
                fails("penalty " + "9".repeat(591) + ";", 2, 8),
                fails("penalty 2147483648;", 2, 8), fails("penalty 4294967296;", 2, 8),
                fails("penalty 4294967301;", 2, 8), fails("penalty 18446744073709551616;", 2, 8),
                fails("penalty 18446744073709551621;", 2, 8),
                fails("rider 00 01 4294967297 0 0 0;", 2, 12));
        sentence("setup = { statement \";\" }", "text\nload = 0\nerrorCode = 0", loads(" ", 0),
                loads("\\n", 0), loads(" ".repeat(600), 0), fails(";", 1, 0),
                fails("penalty 5;;", 1, 10), fails("penalty 5 penalty 6;", 1, 10));
        setupStatements();
    }

    private static void setupStatements() {
        sentence("statement = \"driver\" X Y X Y SEATS DEPARTURE DETOUR RATE",
                fails("driver 1 1 1 1 1 1 1;", 1, 20), fails("driver 1 1 1 1 1 1 1 1 1;", 1, 23),
                fails("driver;", 1, 6), loads("driver 1 1 1 1 1 1 1 1;", 1));
        sentence("\"rider\" X Y X Y READY DEADLINE",
                fails("rider 1 1 1 1 1;", 1, 15), fails("rider 1 1 1 1 1 1 1;", 1, 18),
                fails("rider;", 1, 5), loads("rider 1 1 1 1 1 1;", 1));
        sentence("\"penalty\" CENTS", fails("penalty;", 1, 7), fails("penalty 1 1;", 1, 10),
                loads("penalty 1;", 1));
        loadedNumbers();
        sentence("The first place is the start or origin, the second one the end or "
                + "destination.", """
                text driver 1 2 13 4 4 50 40 7;rider 3 3 9 4 0 999;rider 1 2 1 2 0 50;
                load = 3
                routeLength 0 = 14
                soloExtra 1 0 = 0
                assign 0 0 = 0
                arrival 0 1 = 53
                arrival 0 2 = 60
                arrival 0 3 = 64
                """);
        int[] low = {0, 0, 0, 0, 1, 0, 0, 1};
        int[] high = {99, 99, 99, 99, 4, 1439, 400, 99};
        for (int k = 0; k < 8; k++) {
            numberRange("driver 1 1 1 1 1 1 1 1;", k, low[k], high[k]);
        }
        int[] riderHigh = {99, 99, 99, 99, 1439, 9999};
        for (int k = 0; k < 6; k++) {
            numberRange("rider 1 1 1 1 1 1;", k, 0, riderHigh[k]);
        }
        numberRange("penalty 1;", 0, 0, 9999);
        sentence("The statements add a driver or a rider, or set the penalty.", """
                text rider 1 2 3 4 5 6;driver 9 8 7 6 2 3 4 5;penalty 7;rider 4 4 4 4 4 4;
                load = 4
                driverCount = 1
                riderCount = 2
                setPenalty 1 = 7
                """, "text " + "driver 1 1 1 1 1 1 1 1;".repeat(8) + "rider 1 1 1 1 1 1;".repeat(20)
                + "penalty 8;" + "\nload = 29\ndriverCount = 8\nriderCount = 20\nsetPenalty 1 = 8");
    }

    /** Each number of a statement is that of the driver or rider who is added. */
    private static void loadedNumbers() {
        sentence("X Y X Y SEATS DEPARTURE DETOUR RATE", """
                text driver 0 50 10 50 2 100 20 7;
                load = 1
                along 2 8
                along 2 8
                along 2 8
                aside 5 60
                aside 5 61
                arrival 0 0 = 100
                arrival 0 1 = 110
                tripCost 0 = 70
                soloExtra 3 0 = 20
                soloExtra 4 0 = -1
                assign 0 0 = 0
                assign 1 0 = 0
                extra 2 0 = 12
                """, """
                text driver 3 7 20 9 4 5 6 99;
                load = 1
                addRider 3 7 20 9 0 24
                addRider 3 7 20 9 0 23
                addRider 2 7 20 10 0 9999
                addRider 2 7 20 11 0 9999
                addRider 2 6 21 10 0 9999
                routeLength 0 = 19
                tripCost 0 = 1881
                soloExtra 0 0 = 0
                soloExtra 1 0 = -1
                soloExtra 2 0 = 4
                soloExtra 3 0 = 6
                soloExtra 4 0 = -1
                """);
        sentence("X Y X Y READY DEADLINE", """
                text rider 2 51 8 53 130 138;rider 2 51 8 53 130 137;rider 2 51 8 53 131 138;
                load = 3
                line 1 6 1
                line 1 5 1
                soloExtra 0 0 = 6
                soloExtra 0 1 = -1
                soloExtra 1 0 = -1
                soloExtra 2 0 = -1
                assign 0 0 = 6
                arrival 0 1 = 103
                arrival 0 2 = 138
                arrival 0 3 = 143
                """);
        sentence("\"penalty\" CENTS", """
                text penalty 123;
                load = 1
                setPenalty 0 = 123
                """);
    }

    /** The least and the greatest number that is allowed, and those beside them. */
    private static void numberRange(String statement, int place, int low, int high) {
        String[] words = statement.replace(";", "").split(" ");
        int position = 0;
        for (int k = 0; k <= place; k++) {
            position += words[k].length() + 1;
        }
        String bare = String.join(" ", words);
        sentence("The numbers have the ranges given above.",
                loads(with(bare, place + 1, low) + ";", 1),
                loads(with(bare, place + 1, high) + ";", 1),
                fails(with(bare, place + 1, high + 1) + ";", 2, position),
                fails(with(bare, place + 1, low - 1) + ";", low > 0 ? 2 : 1, position));
    }

    private static void setupErrors() {
        String eight = "driver 1 1 1 1 1 1 1 1;".repeat(8);
        String twenty = "rider 1 1 1 1 1 1;".repeat(20);
        sentence("the parser reads the tokens from the first one on and stops at the first token "
                + "that is wrong", fails("penalty 1; x; penalty 10000;", 1, 11),
                fails("penalty 10000; x;", 2, 8), fails("driver 100 x", 2, 7),
                fails("driver x 100", 1, 7), fails("rider 1 100 100 100;", 2, 8),
                fails("penalty 10000 \u00e9", 2, 8), fails("penalty 5 \u00e9 10000;", 1, 10));
        sentence("The error position is the index of its first byte", fails("  xyz", 1, 2),
                fails("\\n\\n\\nxyz;", 1, 3), fails("penalty   00010000;", 2, 10),
                fails(" ".repeat(599) + "7", 1, 599));
        sentence("or the length of the text if the text ends too early", fails("penalty", 1, 7),
                fails("penalty ", 1, 8), fails("penalty 5", 1, 9), fails("penalty 5 \\n ", 1, 12),
                fails("driver", 1, 6), fails("driver 1 1 1 1 1 1 1", 1, 20),
                fails("driver 1 1 1 1 1 1 1 1", 1, 22), fails("rider 1", 1, 7),
                fails("penalty 5;rider 1 1 1 1 1 1 ", 1, 28),
                fails("penalty" + " ".repeat(593), 1, 600));
        sentence("The error code is 1 if the token is not allowed there or a byte belongs to no "
                + "token", fails("7", 1, 0), fails("driver driver", 1, 7), fails("rider ;", 1, 6),
                fails("penalty penalty;", 1, 8), fails("penalty 5 5;", 1, 10),
                fails("penalty 5;-", 1, 10), fails("penalty -5;", 1, 8),
                fails("penalty 5.5;", 1, 9), fails("\"", 1, 0), fails("drivers 1;", 1, 0),
                fails("drive 1;", 1, 0), fails("ride 1;", 1, 0), fails("riders 1;", 1, 0),
                fails("penalties 1;", 1, 0), fails("penal 1;", 1, 0), fails("seats 1;", 1, 0),
                fails("kenalty 1;", 1, 0), fails("penaltx 1;", 1, 0), fails("penelty 1;", 1, 0),
                fails("eriver 1 1 1 1 1 1 1 1;", 1, 0), fails("drivel 1 1 1 1 1 1 1 1;", 1, 0),
                fails("sider 1 1 1 1 1 1;", 1, 0), fails("rides 1 1 1 1 1 1;", 1, 0));
        sentence("2 if a number is out of its range", fails("penalty 10000;", 2, 8),
                fails("driver 1 1 1 1 0 1 1 1;", 2, 15), fails("driver 1 1 1 1 1 1 1 0;", 2, 21),
                fails("penalty 10000", 2, 8), fails("penalty 10000 5;", 2, 8),
                fails("penalty 99999x", 2, 8));
        sentence("3 for the first word of a statement that would add a 9th driver or a 21st rider",
                fails(eight + "driver 1 1 1 1 1 1 1 1;", 3, 184), fails(eight + "driver", 3, 184),
                fails(eight + " driver 100;", 3, 185), fails(eight + "driver x", 3, 184),
                fails(eight + "drivers", 1, 184), loads(eight + "rider 1 1 1 1 1 1;", 9),
                loads(eight + "penalty 1;", 9), fails(twenty + "rider 1 1 1 1 1 1;", 3, 360),
                fails(twenty + "rider", 3, 360), fails(twenty + "\\nrider 100", 3, 361),
                fails(twenty + "riders", 1, 360), loads(twenty + "driver 1 1 1 1 1 1 1 1;", 21),
                loads(eight, 8), loads(twenty, 20), fails(eight + twenty + "rider;", 3, 544),
                times(8, "addDriver 1 0 0 1") + "text " + eight + "\nload = 8",
                times(20, "addRider 0 0 0 0 0 0") + "text " + twenty + "\nload = 20");
    }

    // ---- exceptions

    private static void everyExceptionOnOneBoard() {
        sentence("A method that throws an exception changes nothing.", """
                line 2 20 3
                line 1 0 1
                aside 5 52
                along 2 8
                along 3 3
                along 1 1
                save 1
                assign 0 0
                assign 1 0
                noShow 1
                assign 2 1
                complete 1
                pay 3 44
                setPenalty 42
                text penalty 10000;
                load = -1
                text penalty 12;x
                addDriver 0 1 1 1 ! IllegalArgumentException
                setTrip 2 1 1 1 1 ! IndexOutOfBoundsException
                setTrip 1 1 1 1 100 ! IllegalArgumentException
                setTrip 0 1 1 1 1 ! IllegalStateException
                setTrip 1 1 1 1 1 ! IllegalStateException
                addRider 1 1 1 1 1 10000 ! IllegalArgumentException
                isDone 2 ! IndexOutOfBoundsException
                riderState 4 ! IndexOutOfBoundsException
                driverOf 4 ! IndexOutOfBoundsException
                ridersOf 2 ! IndexOutOfBoundsException
                setPenalty 10000 ! IllegalArgumentException
                stopCount 2 ! IndexOutOfBoundsException
                stopRider 0 4 ! IndexOutOfBoundsException
                arrival 0 4 ! IndexOutOfBoundsException
                routeLength 2 ! IndexOutOfBoundsException
                detour 2 ! IndexOutOfBoundsException
                extra 0 2 ! IndexOutOfBoundsException
                soloExtra 4 0 ! IndexOutOfBoundsException
                bestDriver 4 ! IndexOutOfBoundsException
                assign 3 2 ! IndexOutOfBoundsException
                assign 3 1 ! IllegalStateException
                assign 0 1 ! IllegalStateException
                assign 1 0 ! IllegalStateException
                unassign 4 ! IndexOutOfBoundsException
                unassign 2 ! IllegalStateException
                riderChoice 4 0 ! IndexOutOfBoundsException
                driverChoice 2 0 ! IndexOutOfBoundsException
                noShow 4 ! IndexOutOfBoundsException
                noShow 1 ! IllegalStateException
                comeBack 4 ! IndexOutOfBoundsException
                comeBack 0 ! IllegalStateException
                replacement 2 ! IndexOutOfBoundsException
                fill 2 ! IndexOutOfBoundsException
                tripCost 2 ! IndexOutOfBoundsException
                marginal 4 ! IndexOutOfBoundsException
                share 4 ! IndexOutOfBoundsException
                driverShare 2 ! IndexOutOfBoundsException
                complete 2 ! IndexOutOfBoundsException
                complete 1 ! IllegalStateException
                riderCredit 4 ! IndexOutOfBoundsException
                driverCredit 2 ! IndexOutOfBoundsException
                pay 4 1 ! IndexOutOfBoundsException
                pay 0 10000 ! IllegalArgumentException
                truncateText 13 ! IllegalArgumentException
                save 2 ! IllegalArgumentException
                restore 2 ! IllegalArgumentException
                restore 0 ! IllegalStateException
                errorCode = 2
                errorPosition = 8
                truncateText 11 = 11
                load = 1
                restore 1
                riderState 0 = 0
                setPenalty 0 = 500
                """, times(8, "addDriver 1 0 0 1") + times(20, "addRider 1 2 3 4 5 6")
                + times(150, "appendText 0x20202020") + """
                addDriver 1 1 1 1 ! IllegalStateException
                addRider 1 1 1 1 1 1 ! IllegalStateException
                appendText 0x20202020 ! IllegalStateException
                """);
    }

    private static void orderOfExceptions() {
        sentence("If several exceptions apply, the one that comes first in the method's list of "
                + "exceptions is thrown.",
                times(8, "addDriver 1 0 0 1") + outside("addDriver 1 2 3 4", 1, 1, 4)
                + outside("addDriver 1 2 3 4", 2, 0, 1439) + outside("addDriver 1 2 3 4", 3, 0, 400)
                + outside("addDriver 1 2 3 4", 4, 1, 99),
                "setTrip 0 100 0 0 0 ! IndexOutOfBoundsException",
                "line 1 0 1\nalong 1 2\nassign 0 0\n" + outside("setTrip 0 1 1 1 1", 2, 0, 99)
                + outside("setTrip 0 1 1 1 1", 3, 0, 99) + outside("setTrip 0 1 1 1 1", 4, 0, 99)
                + outside("setTrip 0 1 1 1 1", 5, 0, 99)
                + "setTrip 1 -1 0 0 0 ! IndexOutOfBoundsException\n"
                + "setTrip 0 1 1 1 1 ! IllegalStateException",
                "line 1 0 1\ncomplete 0\n" + outside("setTrip 0 1 1 1 1", 2, 0, 99)
                + outside("setTrip 0 1 1 1 1", 5, 0, 99)
                + "setTrip 0 1 1 1 1 ! IllegalStateException",
                times(20, "addRider 0 0 0 0 0 0") + with("addRider 1 1 1 1 1 1", 1, 100) + OUT
                + with("addRider 1 1 1 1 1 1", 5, 1440) + OUT
                + with("addRider 1 1 1 1 1 1", 6, -1) + OUT, """
                line 1 0 1
                along 1 2
                assign 0 0
                assign 0 1 ! IndexOutOfBoundsException
                assign 1 0 ! IndexOutOfBoundsException
                assign 0 0 ! IllegalStateException
                complete 0
                assign 0 -1 ! IndexOutOfBoundsException
                assign -1 0 ! IndexOutOfBoundsException
                """, """
                along 1 2
                pay 0 10000 ! IllegalArgumentException
                pay 1 10000 ! IndexOutOfBoundsException
                pay -1 -10000 ! IndexOutOfBoundsException
                restore 2 ! IllegalArgumentException
                restore 0 ! IllegalStateException
                stopRider 0 0 ! IndexOutOfBoundsException
                arrival -1 -1 ! IndexOutOfBoundsException
                extra 5 5 ! IndexOutOfBoundsException
                soloExtra -1 -1 ! IndexOutOfBoundsException
                """);
    }

    /** The last driver there can be is there, the one after it is not. */
    private static void noSuchDrivers() {
        String[] calls = {
            "setTrip 7 1 2 3 4 = 4", "isDone 7 = false", "ridersOf 7 = 0", "stopCount 7 = 2",
            "stopRider 7 0 = -1", "arrival 7 0 = 100", "routeLength 7 = 10", "detour 7 = 0",
            "driverChoice 7 0 = -1", "replacement 7 = -1", "fill 7 = 0", "tripCost 7 = 10",
            "driverShare 7 = 10", "complete 7 = 0", "driverCredit 7 = 0",
        };
        for (String call : calls) {
            String bare = call.split(" = ")[0];
            sentence(bare + ": Throws IndexOutOfBoundsException if there is no such driver",
                    noneSuch(bare, 1, 0),
                    "line 1 0 1\n" + noneSuch(bare, 1, 1) + with(bare, 1, 0),
                    times(7, "line 1 0 1") + noneSuch(bare, 1, 7),
                    times(8, "line 1 0 1") + noneSuch(bare, 1, 8) + call);
        }
        for (String call : new String[] {"extra 0 7 = 0", "soloExtra 0 7 = 0", "assign 0 7 = 0"}) {
            String bare = call.split(" = ")[0];
            sentence(bare + ": Throws IndexOutOfBoundsException if there is no such driver",
                    "along 1 2\n" + noneSuch(bare, 2, 0),
                    "along 1 2\nline 1 0 1\n" + noneSuch(bare, 2, 1) + with(bare, 2, 0),
                    "along 1 2\n" + times(7, "line 1 0 1") + noneSuch(bare, 2, 7),
                    "along 1 2\n" + times(8, "line 1 0 1") + noneSuch(bare, 2, 8) + call);
        }
    }

    /** The last rider there can be is there, the one after it is not. */
    private static void noSuchRiders() {
        String[] calls = {
            "riderState 19 = 0", "driverOf 19 = -1", "extra 19 0 = 0", "soloExtra 19 0 = 0",
            "bestDriver 19 = 0", "assign 19 0 = 0", "unassign 19 ! IllegalStateException",
            "riderChoice 19 0 = 0", "noShow 19 ! IllegalStateException",
            "comeBack 19 ! IllegalStateException", "marginal 19 = -1", "share 19 = -1",
            "riderCredit 19 = 0", "pay 19 5 = 5",
        };
        for (String call : calls) {
            String bare = call.split(" [=!] ")[0];
            sentence(bare + ": Throws IndexOutOfBoundsException if there is no such rider",
                    "line 1 0 1\n" + noneSuch(bare, 1, 0),
                    "line 1 0 1\nalong 1 2\n" + noneSuch(bare, 1, 1)
                    + call.replace("19", "0"),
                    "line 1 0 1\n" + times(19, "along 1 2") + noneSuch(bare, 1, 19),
                    "line 1 0 1\n" + times(20, "along 1 2") + noneSuch(bare, 1, 20) + call);
        }
    }

    // ---- promises 1 to 11

    private static void promises1To6() {
        sentence("Creates a board without drivers and riders, with the penalty 500, an empty text "
                + "buffer and no saved states.", """
                driverCount = 0
                riderCount = 0
                isDone 0 ! IndexOutOfBoundsException
                riderState 0 ! IndexOutOfBoundsException
                truncateText 1 ! IllegalArgumentException
                truncateText 0 = 0
                restore 0 ! IllegalStateException
                restore 1 ! IllegalStateException
                appendText 0x20202020 = 4
                setPenalty 0 = 500
                match = 0
                blockingPairs = 0
                """, "load = 0\nerrorCode = 0\nerrorPosition = -1");
        sentence("Adds a driver; the place is given by setTrip(), and is 0, 0 for start and end "
                + "at first.", """
                addDriver 1 7 0 1 = 0
                routeLength 0 = 0
                arrival 0 1 = 7
                addRider 0 0 0 0 0 7
                addRider 1 0 0 0 0 9999
                addRider 0 1 0 0 0 9999
                addRider 0 0 1 0 0 9999
                soloExtra 0 0 = 0
                soloExtra 1 0 = -1
                soloExtra 2 0 = -1
                soloExtra 3 0 = -1
                """, """
                line 1 0 1
                save 0
                addDriver 1 0 0 1
                setTrip 1 5 5 9 9
                restore 0
                addDriver 1 0 0 1 = 1
                routeLength 1 = 0
                """);
        sentence("Throws IllegalStateException if there are 8 drivers",
                times(7, "addDriver 1 0 0 1") + "addDriver 1 0 0 1 = 7\n"
                + "addDriver 1 0 0 1 ! IllegalStateException\ncomplete 0\n"
                + "addDriver 1 0 0 1 ! IllegalStateException");
        sentence("Sets the start and the end of a driver who is OPEN and has no riders.", """
                addDriver 2 7 400 3
                setTrip 0 3 9 10 4 = 12
                arrival 0 1 = 19
                aside 3 9
                addRider 10 4 10 4 0 9999
                soloExtra 0 0 = 0
                soloExtra 1 0 = 0
                setTrip 0 0 0 0 0 = 0
                soloExtra 0 0 = 24
                """);
        sentence("setTrip: Throws IndexOutOfBoundsException if there is no such driver",
                noneSuch("setTrip 0 1 1 1 1", 1, 0) + "addDriver 1 0 0 1\n"
                + noneSuch("setTrip 0 1 1 1 1", 1, 1) + "setTrip 0 1 1 1 1");
        sentence("Throws IllegalStateException if the driver is DONE or has riders", """
                line 1 0 1
                along 1 2
                assign 0 0
                setTrip 0 1 1 1 1 ! IllegalStateException
                noShow 0
                setTrip 0 0 50 9 50 = 9
                comeBack 0
                assign 0 0
                unassign 0
                setTrip 0 0 50 10 50 = 10
                complete 0
                setTrip 0 1 1 1 1 ! IllegalStateException
                """);
        sentence("Throws IllegalStateException if there are 20 riders",
                times(19, "addRider 1 2 3 4 5 6") + "addRider 1 2 3 4 5 6 = 19\n"
                + "addRider 1 2 3 4 5 6 ! IllegalStateException");
        sentence("Returns the number of drivers.",
                "driverCount = 0\nline 1 0 1\ndriverCount = 1\ncomplete 0\ndriverCount = 1\n"
                + times(7, "addDriver 1 0 0 1") + "driverCount = 8");
        sentence("Returns the number of riders.",
                "line 1 0 1\nriderCount = 0\nalong 1 2\nassign 0 0\nriderCount = 1\nnoShow 0\n"
                + "riderCount = 1\n" + times(19, "along 1 2") + "riderCount = 20");
    }

    private static void promises7To11() {
        sentence("Returns whether the driver is DONE.",
                "line 1 0 1\nline 1 0 1\ncomplete 1\nisDone 0 = false\nisDone 1 = true\n"
                + noneSuch("isDone 0", 1, 2));
        sentence("Returns 0 WAITING, 1 ASSIGNED, 2 ABSENT, 3 DONE.",
                "along 1 2\nalong 1 2\nriderState 1 = 0\n" + noneSuch("riderState 0", 1, 2));
        sentence("Returns the driver in whose route the rider is (ASSIGNED or DONE); NONE "
                + "otherwise.", """
                line 1 0 1
                line 1 0 1
                along 1 2
                driverOf 0 = -1
                assign 0 1
                driverOf 0 = 1
                unassign 0
                driverOf 0 = -1
                assign 0 1
                noShow 0
                driverOf 0 = -1
                comeBack 0
                driverOf 0 = -1
                assign 0 1
                complete 1
                driverOf 0 = 1
                """ + noneSuch("driverOf 0", 1, 1));
        sentence("Returns the riders in the route as a bit mask (bit k for rider k).",
                "line 1 0 1\n" + times(20, "along 1 1") + """
                ridersOf 0 = 0
                assign 19 0
                ridersOf 0 = 524288
                assign 0 0
                ridersOf 0 = 524289
                noShow 19
                ridersOf 0 = 1
                complete 0
                ridersOf 0 = 1
                """ + noneSuch("ridersOf 0", 1, 1),
                "line 1 0 1\n" + times(20, "along 1 1") + "fill 0 = 20\nridersOf 0 = 1048575");
        sentence("Returns the previous penalty.", """
                setPenalty 0 = 500
                setPenalty 9999 = 0
                setPenalty 9999 = 9999
                setPenalty -1 ! IllegalArgumentException
                setPenalty 10000 ! IllegalArgumentException
                setPenalty 3 = 9999
                """);
    }

    // ---- promises 12 to 19

    private static void promises12To16() {
        sentence("Returns the number of stops, the start and the end included.",
                "line 1 0 1\n" + times(20, "along 1 1") + """
                stopCount 0 = 2
                assign 0 0
                stopCount 0 = 4
                fill 0 = 19
                stopCount 0 = 42
                unassign 7
                stopCount 0 = 40
                """ + noneSuch("stopCount 0", 1, 1));
        sentence("Returns the rider of the stop for a pickup, 100 + the rider for a drop, NONE for "
                + "the start and the end.",
                "line 1 0 1\n" + times(20, "along 1 1") + """
                stopRider 0 0 = -1
                stopRider 0 1 = -1
                assign 19 0
                stopRider 0 1 = 19
                stopRider 0 2 = 119
                stopRider 0 3 = -1
                assign 0 0
                stopRider 0 0 = -1
                stopRider 0 1 = 0
                stopRider 0 2 = 100
                stopRider 0 5 = -1
                """);
        sentence("stopRider: Throws IndexOutOfBoundsException if there is no such driver or stop",
                noneSuch("stopRider 0 0", 1, 0) + "line 1 0 1\n" + noneSuch("stopRider 0 0", 1, 1)
                + noneSuch("stopRider 0 0", 2, 2) + "along 1 2\nassign 0 0\nstopRider 0 3 = -1\n"
                + noneSuch("stopRider 0 0", 2, 4));
        sentence("Returns the arrival at the stop; for the start the departure time.", """
                line 1 0 1
                arrival 0 0 = 100
                arrival 0 1 = 110
                addRider 0 50 1 50 120 9999
                assign 0 0
                arrival 0 0 = 100
                arrival 0 1 = 100
                arrival 0 2 = 121
                arrival 0 3 = 130
                """);
        sentence("arrival: Throws IndexOutOfBoundsException if there is no such driver or stop",
                noneSuch("arrival 0 0", 1, 0) + "line 1 0 1\n" + noneSuch("arrival 0 0", 1, 1)
                + noneSuch("arrival 0 0", 2, 2) + "along 1 2\nassign 0 0\narrival 0 3 = 110\n"
                + noneSuch("arrival 0 0", 2, 4));
        sentence("Returns the length of the route.", """
                line 1 40 1
                along 8 2
                assign 0 0
                routeLength 0 = 22
                unassign 0
                routeLength 0 = 10
                """ + noneSuch("routeLength 0", 1, 1));
        sentence("Returns the detour of the route.", """
                line 1 12 1
                along 8 2
                detour 0 = 0
                assign 0 0
                detour 0 = 12
                """ + noneSuch("detour 0", 1, 1));
    }

    private static void promises17To19() {
        sentence("Returns the extra; NONE if there is none, or the rider is in the route of this "
                + "driver.", """
                line 2 20 1
                line 2 20 1
                aside 5 51
                aside 5 61
                extra 0 0 = 2
                extra 1 0 = -1
                assign 0 0
                extra 0 0 = -1
                extra 0 1 = 2
                noShow 0
                extra 0 0 = 2
                comeBack 0
                assign 0 0
                complete 0
                extra 0 0 = -1
                extra 0 1 = 2
                aside 5 52
                extra 2 0 = 2
                """);
        sentence("extra: Throws IndexOutOfBoundsException if there is no such rider or driver",
                "line 1 0 1\n" + noneSuch("extra 0 0", 1, 0) + "along 1 2\n"
                + noneSuch("extra 0 0", 1, 1) + noneSuch("extra 0 0", 2, 1) + "extra 0 0 = 0");
        sentence("Returns the solo extra; NONE if there is none.", """
                line 1 20 1
                aside 5 60
                aside 5 61
                soloExtra 0 0 = 20
                soloExtra 1 0 = -1
                assign 0 0
                soloExtra 0 0 = 20
                noShow 0
                soloExtra 0 0 = 20
                comeBack 0
                assign 0 0
                complete 0
                soloExtra 0 0 = 20
                soloExtra 1 0 = -1
                """);
        sentence("soloExtra: Throws IndexOutOfBoundsException if there is no such rider or driver",
                "line 1 0 1\n" + noneSuch("soloExtra 0 0", 1, 0) + "along 1 2\n"
                + noneSuch("soloExtra 0 0", 1, 1) + noneSuch("soloExtra 0 0", 2, 1)
                + "soloExtra 0 0 = 0");
        sentence("Returns the OPEN driver with the least extra for this rider, of several the "
                + "lowest number; NONE if there is none.", """
                aside 5 53
                line 1 40 1
                line 1 40 1
                bestDriver 0 = 0
                setTrip 1 0 51 10 51
                bestDriver 0 = 1
                setTrip 0 0 52 10 52
                bestDriver 0 = 0
                """, """
                aside 5 52
                bestDriver 0 = -1
                line 1 3 1
                bestDriver 0 = -1
                line 1 40 1
                bestDriver 0 = 1
                line 1 40 1
                bestDriver 0 = 1
                line 1 40 99
                setTrip 3 0 51 10 51
                bestDriver 0 = 3
                complete 3
                bestDriver 0 = 1
                complete 1
                bestDriver 0 = 2
                aside 5 51
                assign 1 2
                bestDriver 0 = 2
                complete 2
                bestDriver 0 = -1
                """ + noneSuch("bestDriver 0", 1, 2));
    }

    // ---- promises 20 to 25

    private static void promises20And21() {
        sentence("Assigns a WAITING rider to an OPEN driver by the best insertion.", """
                line 2 40 1
                aside 5 53
                aside 5 51
                assign 0 0 = 6
                assign 1 0 = 0
                ridersOf 0 = 3
                stopRider 0 1 = 1
                stopRider 0 2 = 101
                """);
        sentence("assign: Throws IndexOutOfBoundsException if there is no such rider or driver",
                "line 1 0 1\n" + noneSuch("assign 0 0", 1, 0) + "along 1 2\n"
                + noneSuch("assign 0 0", 1, 1) + noneSuch("assign 0 0", 2, 1) + "assign 0 0 = 0");
        sentence("Throws IllegalStateException if the rider is not WAITING, the driver is not "
                + "OPEN, or there is no extra", """
                line 1 20 1
                line 1 20 1
                aside 5 60
                aside 5 61
                aside 5 40
                assign 1 0 ! IllegalStateException
                assign 0 0 = 20
                assign 0 0 ! IllegalStateException
                assign 0 1 ! IllegalStateException
                assign 2 0 ! IllegalStateException
                noShow 0
                assign 0 0 ! IllegalStateException
                comeBack 0
                assign 0 0 = 20
                complete 0
                assign 0 1 ! IllegalStateException
                aside 5 60
                extra 3 0 = 0
                assign 3 0 ! IllegalStateException
                assign 3 1 = 20
                """);
        sentence("Takes an ASSIGNED rider out of the route; the rider is WAITING then.", """
                line 2 40 1
                aside 5 53
                aside 5 51
                assign 0 0
                assign 1 0
                unassign 1 = 0
                riderState 1 = 0
                ridersOf 0 = 1
                unassign 0 = 6
                riderState 0 = 0
                driverOf 0 = -1
                stopCount 0 = 2
                riderCredit 0 = 0
                """);
        sentence("unassign: Throws IndexOutOfBoundsException if there is no such rider",
                noneSuch("unassign 0", 1, 0) + "line 1 0 1\nalong 1 2\nassign 0 0\n"
                + noneSuch("unassign 0", 1, 1) + "unassign 0 = 0");
        sentence("unassign: Throws IllegalStateException if the rider is not ASSIGNED", """
                line 1 0 1
                along 1 2
                unassign 0 ! IllegalStateException
                assign 0 0
                noShow 0
                unassign 0 ! IllegalStateException
                comeBack 0
                assign 0 0
                complete 0
                unassign 0 ! IllegalStateException
                """);
    }

    private static void promises22To25() {
        sentence("All ASSIGNED riders become WAITING first, and the routes of OPEN drivers lose "
                + "their stops; then all WAITING riders take part.", """
                line 1 40 1
                line 1 40 2
                line 1 40 3
                aside 5 53
                aside 5 52
                aside 5 51
                assign 2 2
                complete 2
                assign 0 0
                assign 1 1
                match = 2
                driverOf 0 = 1
                driverOf 1 = 0
                driverOf 2 = 2
                riderState 2 = 3
                ridersOf 2 = 4
                noShow 1
                match = 1
                driverOf 0 = 0
                riderState 1 = 2
                stopCount 1 = 2
                """);
        sentence("the riders whom the driver holds are assigned by the best insertion, the most "
                + "preferred one first", """
                line 4 12 1
                along 9 4
                along 2 8
                along 2 8
                match = 3
                stopRider 0 1 = 2
                stopRider 0 2 = 1
                """);
        sentence("a rider for whom there is no extra then stays WAITING", """
                line 2 20 1
                aside 5 60
                aside 5 40
                match = 1
                riderState 0 = 1
                riderState 1 = 0
                driverOf 1 = -1
                pay 1 1
                match = 1
                riderState 0 = 0
                riderState 1 = 1
                """);
        sentence("match: Returns the number of ASSIGNED riders.",
                "match = 0", "along 1 2\nmatch = 0", "line 1 0 1\nmatch = 0",
                "line 1 0 1\nalong 1 2\nmatch = 1\nmatch = 1",
                "line 1 0 1\nalong 1 2\nassign 0 0\ncomplete 0\nmatch = 0\nriderState 0 = 3");
        sentence("Returns the driver at this place of the rider's preferences among the drivers "
                + "that fit; NONE if there are not so many, or place is negative.", """
                line 1 40 2
                line 1 3 1
                line 1 40 1
                aside 5 52
                riderChoice 0 0 = 2
                riderChoice 0 1 = 0
                riderChoice 0 2 = -1
                riderChoice 0 -1 = -1
                riderChoice 0 -2147483648 = -1
                riderChoice 0 2147483647 = -1
                assign 0 2
                riderChoice 0 0 = 2
                noShow 0
                riderChoice 0 0 = 2
                complete 2
                riderChoice 0 0 = 0
                riderChoice 0 1 = -1
                """ + noneSuch("riderChoice 0 0", 1, 1) + noneSuch("riderChoice 0 -1", 1, 1));
        sentence("Returns the rider at this place of the driver's preferences among the WAITING "
                + "and ASSIGNED riders that fit; NONE if there are not so many, or place is "
                + "negative.", """
                line 2 6 1
                line 2 6 1
                aside 5 53
                aside 5 54
                aside 5 52
                aside 5 51
                driverChoice 0 0 = 3
                driverChoice 0 1 = 2
                driverChoice 0 2 = 0
                driverChoice 0 3 = -1
                driverChoice 0 -1 = -1
                driverChoice 0 -2147483648 = -1
                driverChoice 0 2147483647 = -1
                assign 3 0
                driverChoice 0 0 = 3
                driverChoice 1 0 = 3
                noShow 3
                driverChoice 0 0 = 2
                assign 2 1
                complete 1
                driverChoice 0 0 = 0
                driverChoice 0 1 = -1
                driverChoice 1 0 = -1
                """ + noneSuch("driverChoice 0 0", 1, 2) + noneSuch("driverChoice 0 -1", 1, 2));
        sentence("Returns the number of blocking pairs.", "blockingPairs = 0",
                times(8, "line 1 40 1") + times(20, "along 1 2") + """
                blockingPairs = 160
                match = 8
                blockingPairs = 0
                """);
    }

    // ---- promises 26 to 29

    private static void promises26And27() {
        sentence("Notes that an ASSIGNED rider did not show up: the rider is taken out of the "
                + "route and is ABSENT; the penalty goes from the rider's credit to the driver's "
                + "credit.", """
                line 2 40 1
                line 2 40 1
                aside 5 53
                along 1 2
                assign 0 1
                assign 1 1
                noShow 0 = 1
                riderState 0 = 2
                driverOf 0 = -1
                ridersOf 1 = 2
                routeLength 1 = 10
                riderCredit 0 = -500
                driverCredit 1 = 500
                driverCredit 0 = 0
                riderCredit 1 = 0
                setPenalty 0
                noShow 1 = 1
                riderCredit 1 = 0
                driverCredit 1 = 500
                comeBack 1 = 0
                assign 1 0
                setPenalty 9999
                noShow 1 = 0
                riderCredit 1 = -9999
                driverCredit 0 = 9999
                """);
        sentence("noShow: Throws IndexOutOfBoundsException if there is no such rider",
                noneSuch("noShow 0", 1, 0) + "line 1 0 1\nalong 1 2\nassign 0 0\n"
                + noneSuch("noShow 0", 1, 1) + "noShow 0 = 0");
        sentence("noShow: Throws IllegalStateException if the rider is not ASSIGNED", """
                line 1 0 1
                along 1 2
                noShow 0 ! IllegalStateException
                assign 0 0
                noShow 0
                noShow 0 ! IllegalStateException
                comeBack 0
                assign 0 0
                complete 0
                noShow 0 ! IllegalStateException
                """);
        sentence("Lets an ABSENT rider be WAITING again.", """
                line 1 0 1
                along 1 2
                assign 0 0
                noShow 0
                comeBack 0 = -500
                riderState 0 = 0
                driverOf 0 = -1
                assign 0 0 = 0
                pay 0 600
                noShow 0
                comeBack 0 = -400
                """);
        sentence("comeBack: Throws IndexOutOfBoundsException if there is no such rider",
                noneSuch("comeBack 0", 1, 0) + "line 1 0 1\nalong 1 2\nassign 0 0\nnoShow 0\n"
                + noneSuch("comeBack 0", 1, 1) + "comeBack 0 = -500");
        sentence("Throws IllegalStateException if the rider is not ABSENT", """
                line 1 0 1
                along 1 2
                comeBack 0 ! IllegalStateException
                assign 0 0
                comeBack 0 ! IllegalStateException
                complete 0
                comeBack 0 ! IllegalStateException
                """);
    }

    private static void promises28And29() {
        sentence("Returns the WAITING rider with the least extra for this driver, of equal ones "
                + "the one with the higher credit, then the lower number; NONE if the driver is "
                + "DONE or there is none.", """
                line 2 20 1
                replacement 0 = -1
                aside 5 61
                replacement 0 = -1
                aside 5 53
                replacement 0 = 1
                aside 5 52
                aside 5 48
                replacement 0 = 2
                pay 3 1
                replacement 0 = 3
                pay 2 1
                replacement 0 = 2
                pay 2 -2
                pay 3 -3
                replacement 0 = 2
                pay 1 9999
                replacement 0 = 2
                assign 2 0
                replacement 0 = 1
                assign 1 0
                noShow 2
                replacement 0 = 3
                complete 0
                replacement 0 = -1
                """ + noneSuch("replacement 0", 1, 1));
        sentence("Assigns the replacement to the driver, and again the next one, as long as there "
                + "is one.", """
                line 1 20 1
                fill 0 = 0
                aside 5 58
                aside 5 48
                aside 5 46
                aside 5 45
                fill 0 = 3
                ridersOf 0 = 14
                riderState 0 = 0
                fill 0 = 0
                """, """
                line 2 0 1
                along 2 8
                along 2 8
                along 2 8
                pay 2 1
                fill 0 = 2
                ridersOf 0 = 5
                """, """
                line 1 0 1
                along 1 2
                complete 0
                fill 0 = 0
                riderState 0 = 0
                """, "line 1 0 1\n" + times(20, "along 1 1") + "fill 0 = 20\nfill 0 = 0",
                noneSuch("fill 0", 1, 0) + "line 1 0 1\n" + noneSuch("fill 0", 1, 1));
    }

    // ---- promises 30 to 40

    private static void promises30To34() {
        sentence("Returns the cost of the trip.", """
                line 1 40 99
                tripCost 0 = 990
                aside 5 51
                assign 0 0
                tripCost 0 = 1188
                complete 0
                tripCost 0 = 1188
                """ + noneSuch("tripCost 0", 1, 1));
        sentence("Returns the marginal detour of the rider; NONE if the rider is neither ASSIGNED "
                + "nor DONE.", """
                line 1 40 1
                aside 5 51
                marginal 0 = -1
                assign 0 0
                marginal 0 = 2
                noShow 0
                marginal 0 = -1
                comeBack 0
                marginal 0 = -1
                assign 0 0
                complete 0
                marginal 0 = 2
                """ + noneSuch("marginal 0", 1, 1));
        sentence("Returns the rider's share; NONE if the rider is neither ASSIGNED nor DONE.", """
                line 1 40 1
                aside 5 51
                share 0 = -1
                assign 0 0
                share 0 = 7
                noShow 0
                share 0 = -1
                comeBack 0
                share 0 = -1
                assign 0 0
                complete 0
                share 0 = 7
                """ + noneSuch("share 0", 1, 1));
        sentence("Returns the driver's share.", """
                line 1 40 3
                driverShare 0 = 30
                aside 5 51
                assign 0 0
                driverShare 0 = 15
                complete 0
                driverShare 0 = 15
                addDriver 1 0 0 1
                driverShare 1 = 0
                """ + noneSuch("driverShare 0", 1, 2));
        sentence("Completes the trip of an OPEN driver: the credit of each rider decreases by the "
                + "rider's share, the driver's credit increases by the sum of these shares, and "
                + "the driver and these riders are DONE.", """
                line 4 40 3
                line 4 40 5
                aside 2 52
                aside 5 49
                aside 8 51
                aside 8 51
                along 1 2
                assign 0 0
                assign 1 0
                assign 2 0
                assign 3 1
                assign 4 0
                noShow 4
                pay 1 100
                complete 0 = 46
                riderCredit 0 = -18
                riderCredit 1 = 84
                riderCredit 2 = -12
                riderCredit 3 = 0
                riderCredit 4 = -500
                driverCredit 0 = 546
                driverCredit 1 = 0
                isDone 0 = true
                isDone 1 = false
                riderState 2 = 3
                riderState 3 = 1
                riderState 4 = 2
                """, """
                line 1 0 1
                along 1 2
                complete 0 = 0
                driverCredit 0 = 0
                isDone 0 = true
                riderState 0 = 0
                """);
        sentence("complete: Throws IndexOutOfBoundsException if there is no such driver",
                noneSuch("complete 0", 1, 0) + "line 1 0 1\n" + noneSuch("complete 0", 1, 1));
        sentence("Throws IllegalStateException if the driver is DONE already", """
                line 1 0 1
                along 1 2
                assign 0 0
                complete 0 = 5
                complete 0 ! IllegalStateException
                driverCredit 0 = 5
                riderCredit 0 = -5
                """);
    }

    private static void promises35To38() {
        sentence("Returns the rider's credit.", "along 1 2\nalong 1 2\npay 1 5\nriderCredit 0 = 0\n"
                + "riderCredit 1 = 5\n" + noneSuch("riderCredit 0", 1, 2));
        sentence("Returns the driver's credit.", "line 1 0 1\nalong 1 2\nassign 0 0\nnoShow 0\n"
                + "driverCredit 0 = 500\n" + noneSuch("driverCredit 0", 1, 1));
        sentence("Adds an amount to a rider's credit.",
                "along 1 2\n" + bounds("pay 0 5", 2, -9999, 9999)
                + "pay 0 0 = 0\npay 0 -9999 = -9999\npay 0 -9999 = -19998\npay 0 9999 = -9999\n"
                + noneSuch("pay 0 1", 1, 1) + "riderCredit 0 = -9999");
        sentence("Returns the rider at this place if all riders are ordered by their credits, the "
                + "lowest one (the greatest debt) first, of equal ones the lower number first; "
                + "NONE if there are not so many, or place is negative.", """
                debtor 0 = -1
                line 1 0 1
                along 1 2
                along 1 2
                along 1 2
                debtor 0 = 0
                debtor 1 = 1
                debtor 2 = 2
                debtor 3 = -1
                debtor -1 = -1
                debtor -2147483648 = -1
                debtor 2147483647 = -1
                pay 2 -1
                debtor 0 = 2
                debtor 1 = 0
                pay 0 1
                debtor 1 = 1
                debtor 2 = 0
                assign 1 0
                noShow 1
                debtor 0 = 1
                assign 0 0
                complete 0
                debtor 1 = 0
                """, times(20, "along 1 2") + "debtor 19 = 19\ndebtor 20 = -1\npay 0 1\n"
                + "debtor 19 = 0\ndebtor 0 = 1");
    }

    private static void promises39And40() {
        sentence("Returns the numerator of the mean detour of all drivers with riders, in lowest "
                + "terms; 0 if there are none.", """
                meanDetourNumerator = 0
                line 1 40 1
                line 1 40 1
                line 1 40 1
                meanDetourNumerator = 0
                aside 5 51
                aside 5 52
                aside 5 50
                assign 0 0
                meanDetourNumerator = 2
                assign 2 1
                meanDetourNumerator = 1
                assign 1 1
                meanDetourNumerator = 3
                unassign 2
                assign 2 2
                meanDetourNumerator = 2
                complete 1
                meanDetourNumerator = 2
                """);
        sentence("Returns the denominator of that mean in lowest terms; 1 if the mean is 0 or "
                + "there are no drivers with riders.", """
                meanDetourDenominator = 1
                line 1 40 1
                line 1 40 1
                line 1 40 1
                line 1 40 1
                meanDetourDenominator = 1
                along 1 2
                along 1 2
                aside 5 51
                aside 5 52
                assign 0 0
                assign 1 1
                meanDetourDenominator = 1
                assign 2 2
                meanDetourNumerator = 2
                meanDetourDenominator = 3
                assign 3 3
                meanDetourNumerator = 3
                meanDetourDenominator = 2
                unassign 0
                meanDetourNumerator = 2
                meanDetourDenominator = 1
                """);
    }

    // ---- promises 41 to 47

    private static void promises41And42() {
        sentence("Appends four bytes to the text buffer, the highest byte of the parameter first.",
                """
                appendText 0x70656e61 = 4
                appendText 0x6c747935 = 8
                appendText 0x3b20200a = 12
                load = 1
                setPenalty 0 = 5
                appendText 0x41202020 = 4
                load = -1
                errorPosition = 0
                appendText 0x20412020 = 4
                load = -1
                errorPosition = 1
                appendText 0x20204120 = 4
                load = -1
                errorPosition = 2
                appendText 0x20202041 = 4
                load = -1
                errorPosition = 3
                appendText 0xff202020
                load = -1
                errorPosition = 0
                appendText -1 = 4
                appendText -2147483648 = 8
                """);
        sentence("Throws IllegalStateException if the text would be longer than 600 bytes",
                times(149, "appendText 0x20202020") + """
                appendText 0x20202020 = 600
                appendText 0x20202020 ! IllegalStateException
                truncateText 597 = 597
                appendText 0x20202020 ! IllegalStateException
                truncateText 596 = 596
                appendText 0x20202041 = 600
                load = -1
                errorPosition = 599
                appendText 0 = 4
                """);
        sentence("Cuts the text to its first bytes.", """
                text penalty 5;;
                truncateText 10 = 10
                load = 1
                setPenalty 0 = 5
                text penalty 66;
                truncateText 9 = 9
                appendText 0x3b202020 = 13
                load = 1
                setPenalty 0 = 6
                """);
        sentence("length: the new length, 0 to the present length", """
                truncateText 0 = 0
                truncateText 1 ! IllegalArgumentException
                truncateText -1 ! IllegalArgumentException
                text abc
                truncateText -1 ! IllegalArgumentException
                truncateText 4 ! IllegalArgumentException
                truncateText -2147483648 ! IllegalArgumentException
                truncateText 2147483647 ! IllegalArgumentException
                truncateText 3 = 3
                truncateText 2 = 2
                truncateText 3 ! IllegalArgumentException
                truncateText 0 = 0
                truncateText 1 ! IllegalArgumentException
                load = 0
                """);
    }

    private static void promise43() {
        sentence("Reads the text as a setup, which replaces all drivers, riders, credits and the "
                + "penalty (500 without a statement).", """
                line 2 20 1
                along 2 8
                along 2 8
                along 2 8
                assign 0 0
                noShow 0
                assign 1 0
                complete 0
                setPenalty 3
                text driver 1 2 13 4 3 50 6 7; rider 1 2 3 4 5 60; penalty 8; penalty 9;
                load = 4
                driverCount = 1
                riderCount = 1
                isDone 0 = false
                driverCredit 0 = 0
                stopCount 0 = 2
                riderState 0 = 0
                driverOf 0 = -1
                riderCredit 0 = 0
                setPenalty 1 = 9
                text rider 4 4 4 4 4 4;
                load = 1
                driverCount = 0
                setPenalty 1 = 500
                load = 0
                riderCount = 0
                setPenalty 1 = 500
                """, """
                text driver 1 1 5 5 1 9 9 9;rider 1 1 1 1 0 999;
                load = 2
                assign 0 0
                pay 0 7
                complete 0
                text rider 1 1 1 1 0 999;driver 1 1 5 6 1 9 9 9;
                load = 2
                text driver 1 1 5 7 1 9 9 9;rider 2 2 2 2 0 999;
                load = 2
                isDone 0 = false
                driverCredit 0 = 0
                ridersOf 0 = 0
                routeLength 0 = 10
                riderState 0 = 0
                riderCredit 0 = 0
                """);
        sentence("The text buffer is empty afterwards, also if there is an error.", """
                text penalty 5;
                load = 1
                truncateText 1 ! IllegalArgumentException
                text penalty;
                load = -1
                truncateText 1 ! IllegalArgumentException
                appendText 0x20202020 = 4
                """);
        sentence("Saved states stay.", """
                line 1 0 1
                along 1 2
                assign 0 0
                setPenalty 6
                save 1
                text driver 1 1 1 1 1 1 1 1;driver 1 1 1 1 1 1 1 1;penalty 8;
                load = 3
                restore 0 ! IllegalStateException
                restore 1 = null
                driverCount = 1
                ridersOf 0 = 1
                setPenalty 6 = 6
                text penalty;
                load = -1
                restore 1 = null
                ridersOf 0 = 1
                """);
        sentence("Returns the number of statements; NONE if the text has an error (the board "
                + "stays).", """
                line 1 20 1
                aside 5 55
                assign 0 0
                pay 0 5
                setPenalty 77
                text driver 1 1 1 1 1 1 1 1; rider 1 1 1 1 1 1; penalty 6; x
                load = -1
                driverCount = 1
                riderCount = 1
                stopCount 0 = 4
                routeLength 0 = 20
                riderState 0 = 1
                riderCredit 0 = 5
                setPenalty 1 = 77
                text penalty 1;penalty 2;penalty 3;
                load = 3
                setPenalty 1 = 3
                """);
    }

    private static void promises44And45() {
        sentence("Returns the error code of the latest load(); 0 if its text had no error, or if "
                + "there was no such call.", """
                errorCode = 0
                text penalty 10000;
                errorCode = 0
                load = -1
                errorCode = 2
                errorCode = 2
                text x
                errorCode = 2
                load = -1
                errorCode = 1
                load = 0
                errorCode = 0
                """);
        sentence("Returns the error position of the latest load(); NONE if its text had no error, "
                + "or if there was no such call.", """
                errorPosition = -1
                text penalty 10000;
                errorPosition = -1
                load = -1
                errorPosition = 8
                errorPosition = 8
                text x
                errorPosition = 8
                load = -1
                errorPosition = 0
                load = 0
                errorPosition = -1
                """);
    }

    private static void promises46And47() {
        sentence("Saves all drivers, riders, routes, credits and the penalty.", """
                line 2 20 3
                line 1 0 1
                aside 5 52
                along 2 8
                along 3 3
                along 1 1
                assign 0 0
                assign 1 0
                noShow 1
                assign 2 1
                complete 1 = 5
                pay 3 44
                setPenalty 42
                save 0 = null
                noShow 0
                comeBack 1
                comeBack 0
                match = 2
                complete 0
                setPenalty 1
                line 1 1 1
                along 1 1
                pay 3 1
                restore 0 = null
                driverCount = 2
                riderCount = 4
                isDone 0 = false
                isDone 1 = true
                ridersOf 0 = 1
                ridersOf 1 = 4
                stopRider 0 1 = 0
                stopRider 0 2 = 100
                arrival 0 3 = 114
                riderState 0 = 1
                riderState 1 = 2
                riderState 2 = 3
                riderState 3 = 0
                driverOf 0 = 0
                driverOf 1 = -1
                driverOf 2 = 1
                riderCredit 0 = 0
                riderCredit 1 = -500
                riderCredit 2 = -5
                riderCredit 3 = 44
                driverCredit 0 = 500
                driverCredit 1 = 5
                tripCost 0 = 42
                setPenalty 1 = 42
                """);
        sentence("Saves all drivers, riders, routes: each number of theirs", """
                line 2 20 7
                addRider 2 51 8 53 130 138
                addRider 2 51 8 53 130 137
                addRider 2 51 8 53 131 138
                along 2 8
                along 2 8
                along 2 8
                aside 5 60
                aside 5 61
                addRider 1 50 9 50 200 999
                assign 8 0
                save 1
                text driver 9 9 8 8 1 3 2 1;rider 7 7 6 6 5 4;rider 7 7 6 6 5 4;penalty 9;
                load = 4
                addRider 7 7 6 6 5 4
                addRider 7 7 6 6 5 4
                addRider 7 7 6 6 5 4
                addRider 7 7 6 6 5 4
                addRider 7 7 6 6 5 4
                addRider 7 7 6 6 5 4
                addRider 7 7 6 6 5 4
                restore 1
                arrival 0 0 = 100
                arrival 0 1 = 101
                arrival 0 2 = 208
                arrival 0 3 = 209
                tripCost 0 = 70
                unassign 8 = 0
                soloExtra 0 0 = 6
                soloExtra 1 0 = -1
                soloExtra 2 0 = -1
                soloExtra 6 0 = 20
                soloExtra 7 0 = -1
                assign 0 0 = 6
                arrival 0 2 = 138
                unassign 0 = 6
                assign 3 0 = 0
                assign 4 0 = 0
                extra 5 0 = 12
                setTrip 0 0 50 10 50 ! IllegalStateException
                """, """
                line 2 40 1
                addRider 2 50 8 50 0 112
                aside 5 52
                aside 5 53
                assign 0 0
                save 0
                unassign 0
                restore 0
                extra 1 0 = 4
                extra 2 0 = 12
                """);
        sentence("slot: 0 or 1; a state that is already saved there is replaced", """
                save -1 ! IllegalArgumentException
                save 2 ! IllegalArgumentException
                save -2147483648 ! IllegalArgumentException
                save 2147483647 ! IllegalArgumentException
                save 0 = null
                addDriver 1 0 0 1
                save 1 = null
                save -1 ! IllegalArgumentException
                save 2 ! IllegalArgumentException
                addDriver 1 0 0 1
                save 0 = null
                restore 1
                driverCount = 1
                restore 0
                driverCount = 2
                save 1
                restore 1
                driverCount = 2
                """);
        sentence("Brings back a saved state, which stays saved.", """
                line 1 40 1
                aside 5 51
                save 1
                assign 0 0
                pay 0 5
                restore 1
                riderState 0 = 0
                riderCredit 0 = 0
                stopCount 0 = 2
                assign 0 0
                complete 0
                setTrip 0 1 1 1 1 ! IllegalStateException
                restore 1
                isDone 0 = false
                setTrip 0 1 1 1 1 = 0
                restore 1
                routeLength 0 = 10
                assign 0 0 = 2
                """);
        sentence("restore: Throws IllegalArgumentException if slot is out of range", """
                save 0
                save 1
                restore -1 ! IllegalArgumentException
                restore 2 ! IllegalArgumentException
                restore -2147483648 ! IllegalArgumentException
                restore 2147483647 ! IllegalArgumentException
                """);
        sentence("Throws IllegalStateException if nothing is saved there", """
                line 1 0 1
                restore 0 ! IllegalStateException
                restore 1 ! IllegalStateException
                save 1
                restore 0 ! IllegalStateException
                restore 1 = null
                save 0
                restore 0 = null
                """);
        sentence("Brings back a saved state: not the text, nor the error code and position", """
                save 0
                text penalty;
                load = -1
                text penalty 3;
                restore 0
                errorCode = 1
                errorPosition = 7
                load = 1
                setPenalty 0 = 3
                """);
    }

    // ---- what the promises say of arguments and answers

    private static void whatIsAdded() {
        sentence("Adds a driver: seats, departure, the detour limit, rate", """
                addDriver 3 400 12 7 = 0
                setTrip 0 0 50 10 50
                arrival 0 0 = 400
                arrival 0 1 = 410
                tripCost 0 = 70
                along 2 8
                along 2 8
                along 2 8
                along 2 8
                aside 5 56
                aside 5 57
                soloExtra 4 0 = 12
                soloExtra 5 0 = -1
                assign 0 0 = 0
                assign 1 0 = 0
                assign 2 0 = 0
                extra 3 0 = 12
                """);
        sentence("Returns the number of the driver.", """
                addDriver 1 0 0 1 = 0
                save 0
                addDriver 1 0 0 1 = 1
                addDriver 0 0 0 1 ! IllegalArgumentException
                addDriver 1 0 0 1 = 2
                restore 0
                addDriver 1 0 0 1 = 1
                complete 1
                addDriver 1 0 0 1 = 2
                text driver 1 1 1 1 1 1 1 1;driver 1 1 1 1 1 1 1 1;driver 1 1 1 1 1 1 1 1;
                load = 3
                addDriver 1 0 0 1 = 3
                """);
        sentence("startX, startY, endX, endY; returns the direct length.", """
                addDriver 1 0 0 1
                setTrip 0 30 45 10 20 = 45
                setTrip 0 11 22 33 44 = 44
                setTrip 0 11 22 33 100 ! IllegalArgumentException
                routeLength 0 = 44
                addRider 11 22 33 44 0 9999
                addRider 10 22 33 44 0 9999
                addRider 11 21 33 44 0 9999
                addRider 11 22 34 44 0 9999
                addRider 11 22 33 45 0 9999
                soloExtra 0 0 = 0
                soloExtra 1 0 = -1
                soloExtra 2 0 = -1
                soloExtra 3 0 = -1
                soloExtra 4 0 = -1
                """);
        sentence("Adds a rider.", """
                addRider 2 51 8 53 130 138 = 0
                addRider 2 51 8 53 130 137 = 1
                addRider 2 51 8 53 131 138 = 2
                line 1 6 1
                line 1 5 1
                soloExtra 0 0 = 6
                soloExtra 0 1 = -1
                soloExtra 1 0 = -1
                soloExtra 2 0 = -1
                riderState 0 = 0
                driverOf 0 = -1
                riderCredit 0 = 0
                assign 0 0 = 6
                arrival 0 1 = 103
                arrival 0 2 = 138
                arrival 0 3 = 143
                """);
        sentence("Returns the number of the rider.", """
                addRider 1 1 1 1 1 1 = 0
                save 0
                addRider 1 1 1 1 1 1 = 1
                addRider 1 1 1 1 1 -1 ! IllegalArgumentException
                addRider 1 1 1 1 1 1 = 2
                restore 0
                addRider 1 1 1 1 1 1 = 1
                text rider 1 1 1 1 1 1;rider 1 1 1 1 1 1;rider 1 1 1 1 1 1;
                load = 3
                addRider 1 1 1 1 1 1 = 3
                """);
    }

    private static void whatCallsReturn() {
        sentence("Sets the penalty.", """
                line 1 0 1
                along 1 2
                setPenalty 30 = 500
                assign 0 0
                noShow 0
                setPenalty 40 = 30
                riderCredit 0 = -30
                comeBack 0 = -30
                assign 0 0
                noShow 0
                riderCredit 0 = -70
                driverCredit 0 = 70
                """);
        sentence("The stops have indexes from 0 (the start).", """
                line 1 40 1
                aside 5 53
                assign 0 0
                stopRider 0 -1 ! IndexOutOfBoundsException
                stopRider 0 0 = -1
                stopRider 0 1 = 0
                stopRider 0 2 = 100
                stopRider 0 3 = -1
                stopRider 0 4 ! IndexOutOfBoundsException
                arrival 0 -1 ! IndexOutOfBoundsException
                arrival 0 0 = 100
                arrival 0 1 = 108
                arrival 0 2 = 108
                arrival 0 3 = 116
                arrival 0 4 ! IndexOutOfBoundsException
                """);
        sentence("Returns by how much the length of the route decreases.", """
                line 2 40 1
                aside 5 53
                aside 5 55
                assign 0 0 = 6
                assign 1 0 = 4
                unassign 0 = 0
                assign 0 0 = 0
                unassign 1 = 4
                routeLength 0 = 16
                unassign 0 = 6
                routeLength 0 = 10
                """);
        sentence("Makes a matching.", """
                line 1 40 1
                line 1 40 2
                aside 5 53
                aside 5 51
                match = 2
                driverOf 0 = 1
                driverOf 1 = 0
                blockingPairs = 0
                """);
        sentence("fill: Returns the number of riders who were assigned.", """
                line 1 4 1
                aside 5 52
                aside 5 51
                aside 5 53
                along 1 2
                fill 0 = 3
                ridersOf 0 = 11
                fill 0 = 0
                noShow 0
                fill 0 = 0
                comeBack 0
                fill 0 = 1
                """);
        sentence("Returns that sum.", """
                line 2 40 3
                line 2 40 3
                aside 5 51
                aside 5 52
                along 1 2
                assign 0 0
                assign 1 0
                assign 2 1
                pay 0 50
                complete 0 = 32
                driverCredit 0 = 32
                noShow 2
                comeBack 2
                assign 2 1
                complete 1 = 15
                driverCredit 1 = 515
                """);
        sentence("pay: Returns the rider's credit then.", """
                along 1 2
                along 1 2
                pay 1 5 = 5
                pay 1 -7 = -2
                pay 0 9999 = 9999
                pay 0 1 = 10000
                pay 1 0 = -2
                """);
    }

    private static void whatTextCallsReturn() {
        sentence("Returns the length of the text in bytes.", """
                appendText 0x70656e61 = 4
                appendText 0x6c747920 = 8
                truncateText 5 = 5
                appendText 0x6c747920 = 9
                truncateText 0 = 0
                appendText 0x20202020 = 4
                load = 0
                appendText 0x20202020 = 4
                """);
        sentence("fourBytes: the bytes", """
                appendText -2147483648 = 4
                appendText 2147483647 = 8
                appendText -1 = 12
                appendText 0 = 16
                load = -1
                errorPosition = 0
                """, """
                appendText 0x20202020 = 4
                appendText 0x20207fff = 8
                load = -1
                errorCode = 1
                errorPosition = 6
                """);
        sentence("Returns the new length.", """
                text penalty 5;
                truncateText 10 = 10
                truncateText 9 = 9
                truncateText 9 = 9
                truncateText 0 = 0
                truncateText 0 = 0
                """);
    }

    private static void anyStateAndPlace() {
        sentence("rider: a rider in any state; driver: a driver, OPEN or DONE", """
                line 2 20 1
                line 2 20 1
                aside 5 51
                extra 0 1 = 2
                assign 0 0
                extra 0 1 = 2
                soloExtra 0 1 = 2
                noShow 0
                extra 0 0 = 2
                extra 0 1 = 2
                soloExtra 0 1 = 2
                comeBack 0
                assign 0 0
                complete 0
                extra 0 0 = -1
                extra 0 1 = 2
                soloExtra 0 0 = 2
                soloExtra 0 1 = 2
                complete 1
                extra 0 1 = 2
                soloExtra 0 1 = 2
                bestDriver 0 = -1
                """);
        sentence("place: 0 for the best; 0 for the first one", """
                line 1 40 2
                line 1 40 1
                aside 5 51
                aside 5 50
                riderChoice 0 0 = 1
                riderChoice 0 1 = 0
                driverChoice 0 0 = 1
                driverChoice 0 1 = 0
                pay 0 1
                debtor 0 = 1
                debtor 1 = 0
                """);
    }
}
