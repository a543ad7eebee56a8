import java.lang.reflect.InvocationTargetException;
import java.lang.reflect.Method;
import java.util.ArrayList;
import java.util.List;
import java.util.TreeMap;
import java.util.regex.Matcher;
import java.util.regex.Pattern;

/**
 * What the tests of the promises share. A test is a static method whose name begins with the number
 * of its promise: promise02_codeTooSmall.
 */
abstract class Checks {
    static final int NONE = -1, UNKNOWN = -101, OUTSIDE = -102, STATE = -103, FULL = -104;
    static final int LISTENER = 0, DEAF = 1, GOOSE = 2, BOY = 3, CLERK = 4;
    static final int LOW = Integer.MIN_VALUE, HIGH = Integer.MAX_VALUE;
    static final int[] NO_PLACES = {LOW, -65536, -1, 6, 7, 256, 65536, HIGH};
    static final int[] NO_LOUDS = {LOW, -1, 0, 10, 256 + 1, 65536 + 1, HIGH};

    private static final Pattern TEST = Pattern.compile("promise(\\d\\d)_\\w+");

    private static String test = "";
    private static int wrong = 0;

    interface Maker {
        PaidToWhisper make();
    }

    interface Call {
        long on(PaidToWhisper x);
    }

    /** Runs the tests of a class; each promise from first to last must have one. */
    static void runAll(Class<?> tests, int first, int last) throws IllegalAccessException {
        TreeMap<String, Method> found = new TreeMap<>();
        boolean[] has = new boolean[100];
        for (Method m : tests.getDeclaredMethods()) {
            Matcher name = TEST.matcher(m.getName());
            if (name.matches()) {
                found.put(m.getName(), m);
                has[Integer.parseInt(name.group(1))] = true;
            }
        }
        int failed = 0;
        for (Method m : found.values()) {
            failed += holds(m) ? 0 : 1;
        }
        for (int promise = first; promise <= last; promise++) {
            if (!has[promise]) {
                System.out.println("promise " + promise + " has no test");
                failed++;
            }
        }
        System.out.println(Math.max(0, found.size() - failed) + " passed, " + failed + " failed");
        if (failed != 0) {
            System.exit(1);
        }
    }

    private static boolean holds(Method m) throws IllegalAccessException {
        int before = wrong;
        test = m.getName();
        try {
            m.setAccessible(true);
            m.invoke(null);
        } catch (InvocationTargetException e) {
            wrong++;
            System.out.println(test + ": threw " + e.getCause());
        }
        return wrong == before;
    }

    static void due(String call, long got, long want) {
        if (got != want) {
            wrong++;
            System.out.println(test + ": " + call + " answered " + got + ", due is " + want);
        }
    }

    /** A call answers so, and all that can be seen afterwards is as if it had not been made. */
    static void unchanged(String call, Maker maker, Call made, long want) {
        PaidToWhisper x = maker.make();
        PaidToWhisper twin = maker.make();
        due(call, made.on(x), want);
        List<Long> after = aftermath(x);
        List<Long> without = aftermath(twin);
        for (int i = 0; i < without.size(); i++) {
            if (!after.get(i).equals(without.get(i))) {
                due("after " + call + " what follows (" + i + ")", after.get(i), without.get(i));
                return;
            }
        }
    }

    /** The same call with each of several numbers. */
    interface CallWith {
        long on(PaidToWhisper x, int number);
    }

    static void unchangedForEach(int[] numbers, Maker maker, CallWith made, long want) {
        for (int number : numbers) {
            unchanged("with " + number, maker, x -> made.on(x, number), want);
        }
    }

    /** Answers that show, by what comes of further calls, everything that an object holds. */
    private static List<Long> aftermath(PaidToWhisper x) {
        Call[] calls = {
            y -> y.digest(), y -> y.fault(), y -> y.cry(0, 1), y -> y.digest(), y -> y.tell(0, false),
            y -> y.digest(), y -> y.move(0, 5), y -> y.hum(5, 3), y -> y.listener(BOY, 2), y -> y.digest(),
            y -> y.day(), y -> y.honey(), y -> y.decree(), y -> y.digest(), y -> y.letter('7'), y -> y.digest(),
            y -> y.restore(), y -> y.digest(), y -> y.day(), y -> y.decree(), y -> y.digest(), y -> y.town(),
            y -> y.digest(), y -> y.restore(), y -> y.digest(), y -> y.forget(), y -> y.blank(), y -> y.digest()};
        List<Long> answers = new ArrayList<>();
        for (Call call : calls) {
            answers.add(call.on(x));
        }
        return answers;
    }

    static void write(PaidToWhisper x, String text) {
        for (int i = 0; i < text.length(); i++) {
            x.letter(text.charAt(i));
        }
    }

    static PaidToWhisper page(String text) {
        PaidToWhisper x = new PaidToWhisper();
        write(x, text);
        return x;
    }

    /** A TOWN with LISTENERS given as pairs: KIND, PLACE. */
    static PaidToWhisper town(String text, int... pairs) {
        PaidToWhisper x = page(text);
        if (x.town() < 0) {
            throw new IllegalStateException(text);
        }
        for (int i = 0; i + 1 < pairs.length; i += 2) {
            x.listener(pairs[i], pairs[i + 1]);
        }
        return x;
    }

    static PaidToWhisper cried(PaidToWhisper x, int place, int loud) {
        if (x.cry(place, loud) < 0) {
            throw new IllegalStateException("cry(" + place + ", " + loud + ")");
        }
        return x;
    }

    /** A TOWN where something of all that an object can hold is so, and an IMAGE is of another state. */
    static PaidToWhisper busy() {
        PaidToWhisper x = town("102030;52", CLERK, 1, GOOSE, 2, LISTENER, 4);
        x.tell(0, true);
        x.image();
        cried(x, 1, 4);
        x.hum(3, 1);
        x.listener(DEAF, 5);
        x.move(2, 3);
        x.tell(1, false);
        x.day();
        cried(x, 0, 2);
        write(x, "01a");
        return x;
    }

    /** A TOWN with as many LISTENERS, as much TOLD and as many letters as there can be. */
    static PaidToWhisper full() {
        PaidToWhisper x = town("010101;92", LISTENER, 0, DEAF, 1, GOOSE, 2, BOY, 3, CLERK, 4, BOY, 4);
        x.image();
        cried(x, 0, 3);
        for (int i = 0; i < 8; i++) {
            x.tell(4, true);
        }
        write(x, "012345678901");
        return x;
    }

    /** A TOWN with LISTENERS whose crier has no VOICE left. */
    static PaidToWhisper hoarse() {
        return cried(town("000000;11", LISTENER, 0, BOY, 2, GOOSE, 0), 0, 1);
    }
}
