import com.sun.management.ThreadMXBean;
import java.lang.management.ManagementFactory;
import java.lang.reflect.Constructor;
import java.lang.reflect.Field;
import java.lang.reflect.Member;
import java.lang.reflect.Method;
import java.lang.reflect.Modifier;
import java.util.ArrayList;
import java.util.Arrays;
import java.util.List;
import java.util.TreeSet;
import java.util.stream.Collectors;

/** The public face is that of the document, and calls make no objects. */
public final class FaceTest {
    private static final String FACE = """
            int NONE
            Carpool()
            int addDriver(int, int, int, int) throws IllegalArgumentException, IllegalStateException
            int setTrip(int, int, int, int, int) throws IndexOutOfBoundsException, \
            IllegalArgumentException, IllegalStateException
            int addRider(int, int, int, int, int, int) throws IllegalArgumentException, \
            IllegalStateException
            int driverCount()
            int riderCount()
            boolean isDone(int) throws IndexOutOfBoundsException
            int riderState(int) throws IndexOutOfBoundsException
            int driverOf(int) throws IndexOutOfBoundsException
            int ridersOf(int) throws IndexOutOfBoundsException
            int setPenalty(int) throws IllegalArgumentException
            int stopCount(int) throws IndexOutOfBoundsException
            int stopRider(int, int) throws IndexOutOfBoundsException
            int arrival(int, int) throws IndexOutOfBoundsException
            int routeLength(int) throws IndexOutOfBoundsException
            int detour(int) throws IndexOutOfBoundsException
            int extra(int, int) throws IndexOutOfBoundsException
            int soloExtra(int, int) throws IndexOutOfBoundsException
            int bestDriver(int) throws IndexOutOfBoundsException
            int assign(int, int) throws IndexOutOfBoundsException, IllegalStateException
            int unassign(int) throws IndexOutOfBoundsException, IllegalStateException
            int match()
            int riderChoice(int, int) throws IndexOutOfBoundsException
            int driverChoice(int, int) throws IndexOutOfBoundsException
            int blockingPairs()
            int noShow(int) throws IndexOutOfBoundsException, IllegalStateException
            long comeBack(int) throws IndexOutOfBoundsException, IllegalStateException
            int replacement(int) throws IndexOutOfBoundsException
            int fill(int) throws IndexOutOfBoundsException
            int tripCost(int) throws IndexOutOfBoundsException
            int marginal(int) throws IndexOutOfBoundsException
            int share(int) throws IndexOutOfBoundsException
            int driverShare(int) throws IndexOutOfBoundsException
            int complete(int) throws IndexOutOfBoundsException, IllegalStateException
            long riderCredit(int) throws IndexOutOfBoundsException
            long driverCredit(int) throws IndexOutOfBoundsException
            long pay(int, int) throws IndexOutOfBoundsException, IllegalArgumentException
            int debtor(int)
            int meanDetourNumerator()
            int meanDetourDenominator()
            int appendText(int) throws IllegalStateException
            int truncateText(int) throws IllegalArgumentException
            int load()
            int errorCode()
            int errorPosition()
            void save(int) throws IllegalArgumentException
            void restore(int) throws IllegalArgumentException, IllegalStateException
            """;

    private static int wrong;

    public static void main(String[] args) {
        checkFace();
        checkNames();
        checkObjects();
        System.out.println(wrong == 0 ? "the face is as due" : wrong + " wrong");
        if (wrong != 0) {
            System.exit(1);
        }
    }

    private static void expect(String what, boolean good) {
        if (!good) {
            wrong++;
            System.out.println("not so: " + what);
        }
    }

    /** All that is not private. */
    private static void checkFace() {
        TreeSet<String> face = new TreeSet<>();
        List<Member> members = new ArrayList<>();
        for (Field f : Carpool.class.getDeclaredFields()) {
            if (!Modifier.isPrivate(f.getModifiers())) {
                face.add(f.getType().getSimpleName() + " " + f.getName());
                members.add(f);
                expect("static final " + f, Modifier.isStatic(f.getModifiers())
                        && Modifier.isFinal(f.getModifiers()));
            }
        }
        for (Constructor<?> c : Carpool.class.getDeclaredConstructors()) {
            face.add("Carpool" + tail(c.getParameterTypes(), c.getExceptionTypes()));
            members.add(c);
        }
        for (Method m : Carpool.class.getDeclaredMethods()) {
            if (!Modifier.isPrivate(m.getModifiers())) {
                face.add(m.getReturnType().getSimpleName() + " " + m.getName()
                        + tail(m.getParameterTypes(), m.getExceptionTypes()));
                members.add(m);
                expect("no static " + m, !Modifier.isStatic(m.getModifiers()));
            }
        }
        for (Member m : members) {
            expect("public " + m, Modifier.isPublic(m.getModifiers()));
        }
        TreeSet<String> due = new TreeSet<>(Arrays.asList(FACE.split("\n")));
        for (String line : due) {
            expect("there is " + line, face.contains(line));
        }
        for (String line : face) {
            expect("the document has " + line, due.contains(line));
        }
        int modifiers = Carpool.class.getModifiers();
        expect("public final class", Modifier.isPublic(modifiers) && Modifier.isFinal(modifiers));
        expect("NONE is -1", Carpool.NONE == -1);
    }

    private static String tail(Class<?>[] parameters, Class<?>[] exceptions) {
        return "(" + names(parameters) + ")"
                + (exceptions.length == 0 ? "" : " throws " + names(exceptions));
    }

    private static String names(Class<?>[] types) {
        return Arrays.stream(types).map(Class::getSimpleName).collect(Collectors.joining(", "));
    }

    /** No private method bears the name of a public one, and no class inside is public. */
    private static void checkNames() {
        TreeSet<String> publicNames = new TreeSet<>();
        for (Method m : Carpool.class.getDeclaredMethods()) {
            if (Modifier.isPublic(m.getModifiers())) {
                publicNames.add(m.getName());
            }
        }
        for (Method m : Carpool.class.getDeclaredMethods()) {
            expect("a name of its own for " + m,
                    Modifier.isPublic(m.getModifiers()) || !publicNames.contains(m.getName()));
        }
        for (Class<?> inside : Carpool.class.getDeclaredClasses()) {
            int modifiers = inside.getModifiers();
            expect("static and not public " + inside, Modifier.isStatic(modifiers)
                    && !Modifier.isPublic(modifiers) && !Modifier.isProtected(modifiers));
            for (Method m : inside.getDeclaredMethods()) {
                expect("a name of its own for " + m, !publicNames.contains(m.getName()));
            }
        }
        int classes = Carpool.class.getDeclaredClasses().length + 1;
        expect("at most twelve classes, not " + classes, classes <= 12);
    }

    /**
     * All calls of a run live in one room, so that a call which returns makes nothing. The machine
     * itself makes something now and then, so that the least of several readings counts.
     */
    private static void checkObjects() {
        long least = Long.MAX_VALUE;
        for (int reading = 0; reading < 10; reading++) {
            least = Math.min(least, bytesOfEveryCall());
        }
        expect("no objects made by calls, but " + least + " bytes", least == 0);
    }

    private static long bytesOfEveryCall() {
        ThreadMXBean threads = (ThreadMXBean) ManagementFactory.getThreadMXBean();
        Carpool c = new Carpool();
        c.save(0);
        c.save(1);
        long before = threads.getCurrentThreadAllocatedBytes();
        everyCall(c);
        return threads.getCurrentThreadAllocatedBytes() - before;
    }

    private static void everyCall(Carpool c) {
        c.appendText('p' << 24 | 'e' << 16 | 'n' << 8 | 'a');
        c.appendText('l' << 24 | 't' << 16 | 'y' << 8 | '5');
        c.appendText(';' << 24);
        c.truncateText(9);
        c.load();
        c.load();
        for (int d = 0; d < 8; d++) {
            c.addDriver(2, 0, 100, 3);
            c.setTrip(d, d, d, 40, 40);
        }
        for (int r = 0; r < 20; r++) {
            c.addRider(r, 30, 40 - r, r, 0, 9999);
        }
        c.assign(0, 0);
        c.unassign(0);
        c.assign(1, 1);
        c.noShow(1);
        c.comeBack(1);
        c.match();
        c.save(0);
        c.fill(2);
        c.complete(2);
        c.save(1);
        c.restore(0);
        for (int d = 0; d < 8; d++) {
            askDriver(c, d);
        }
        for (int r = 0; r < 20; r++) {
            askRider(c, r);
        }
        c.blockingPairs();
        c.setPenalty(c.driverCount() + c.riderCount() + c.errorCode() + c.errorPosition());
        c.debtor(3);
        c.meanDetourNumerator();
        c.meanDetourDenominator();
    }

    private static void askDriver(Carpool c, int driver) {
        c.isDone(driver);
        c.ridersOf(driver);
        c.stopCount(driver);
        c.stopRider(driver, 1);
        c.arrival(driver, 1);
        c.routeLength(driver);
        c.detour(driver);
        c.driverChoice(driver, 5);
        c.replacement(driver);
        c.tripCost(driver);
        c.driverShare(driver);
        c.driverCredit(driver);
    }

    private static void askRider(Carpool c, int rider) {
        c.riderState(rider);
        c.driverOf(rider);
        c.extra(rider, 0);
        c.soloExtra(rider, 0);
        c.bestDriver(rider);
        c.riderChoice(rider, 2);
        c.marginal(rider);
        c.share(rider);
        c.riderCredit(rider);
        c.pay(rider, 5);
    }
}
