import java.io.IOException;
import java.lang.reflect.Method;
import java.nio.file.Files;
import java.nio.file.Path;
import java.util.ArrayList;
import java.util.Arrays;
import java.util.HashMap;
import java.util.List;
import java.util.Map;
import java.util.Set;
import java.util.TreeSet;

/**
 * One object with all the calls made on it, so that a refused call can be held against a twin on which it was not made.
 * Calls are written as in the document, "row(0, 40)"; LEAST and GREATEST stand for the ends of int.
 */
final class Case {
    static final int BAD = -1, FULL = -2, FINDING = -3, STATE = -4, SPENT = -6, NONE = -9;
    static final int NOTHING = 1, BEYOND = 2, UNLIKE = 3, NOUGHT = 4, SIZE = 5;
    static final int LEAST = Integer.MIN_VALUE, GREATEST = Integer.MAX_VALUE;
    private static final int MOST_CALLS = 512;
    private static final Map<String, Method> METHODS = methods();
    private static final String[] DOCUMENT = document();
    private static final Set<Integer> TESTED = new TreeSet<>();

    private static int tests = 0;
    private static int wrong = 0;
    private static String test = "";

    private final SecondWish object = new SecondWish();
    private final List<String> calls = new ArrayList<>();

    // ---- tests

    /** Begins the test of a sentence; its words stand in the document at that promise, or in what is ahead of all promises (0). */
    static void test(int promise, String words) {
        tests++;
        TESTED.add(promise);
        test = "promise " + promise + ", \"" + words + "\": ";
        if (!DOCUMENT[promise].contains(words) && !DOCUMENT[0].contains(words)) {
            fail("the document does not say so");
        }
    }

    static void end(int firstPromise, int lastPromise) {
        test = "";
        for (int promise = firstPromise; promise <= lastPromise; promise++) {
            if (!TESTED.contains(promise)) {
                fail("promise " + promise + " has no test");
            }
        }
        System.out.println(wrong == 0 ? tests + " sentences hold" : wrong + " answers are not as due");
        if (wrong != 0) {
            System.exit(1);
        }
    }

    static void number(String name, int value, int want) {
        if (value != want) {
            fail(name + " is " + value + ", due is " + want);
        }
    }

    private static void fail(String what) {
        wrong++;
        System.out.println(test + what);
    }

    private static void due(String call, long got, long want) {
        if (got != want) {
            fail(call + " answered " + got + ", due is " + want);
        }
    }

    /** What is ahead of the promises, then each promise, with single blanks. */
    private static String[] document() {
        try {
            String[] parts = Files.readString(Path.of("../shared/DOC.md")).split("## Promise \\d+: ");
            for (int i = 0; i < parts.length; i++) {
                parts[i] = parts[i].replaceAll("\\s+", " ");
            }
            return parts;
        } catch (IOException e) {
            throw new IllegalStateException("run from the project's folder, with ../shared beside it", e);
        }
    }

    private static Map<String, Method> methods() {
        Map<String, Method> all = new HashMap<>();
        for (Method m : SecondWish.class.getMethods()) {
            all.put(m.getName(), m);
        }
        return all;
    }

    // ---- objects

    static int[] filled(int n, int v) {
        int[] values = new int[n];
        Arrays.fill(values, v);
        return values;
    }

    static Case fresh() {
        return new Case();
    }

    /** An object with a TOWN by TEXT 0. */
    static Case town(String text) {
        return fresh().text(0, text).does("town(0)");
    }

    Case text(int t, String signs) {
        does("text(" + t + ", " + signs.length() + ")");
        for (int i = 0; i < signs.length(); i++) {
            if (signs.charAt(i) != ' ') {
                does("put(" + t + ", " + i + ", " + (int) signs.charAt(i) + ")");
            }
        }
        return this;
    }

    Case row(int r, int... values) {
        does("row(" + r + ", " + values.length + ")");
        for (int i = 0; i < values.length; i++) {
            if (values[i] != 0) {
                does("lay(" + r + ", " + i + ", " + values[i] + ")");
            }
        }
        return this;
    }

    /** SAYINGS told by 10 times who and the THING. */
    Case says(int... sayings) {
        for (int saying : sayings) {
            does("say(" + saying / 10 + ", " + saying % 10 + ")");
        }
        return this;
    }

    // ---- calls

    Case does(String... made) {
        for (String call : made) {
            long answer = make(call);
            if (answer < 0 && answer >= SPENT) {
                fail(call + " is refused: " + answer);
            }
        }
        return this;
    }

    Case is(String call, long want) {
        due(call, make(call), want);
        return this;
    }

    long answers(String call) {
        return make(call);
    }

    /** The call answers so, and asked() tells told then. */
    Case tells(String call, long want, long told) {
        is(call, want);
        due(call + ", asked()", make("asked()"), told);
        return this;
    }

    Case rowIs(int r, int... values) {
        for (int i = 0; i < values.length; i++) {
            tells("at(" + r + ", " + i + ")", 1, values[i]);
        }
        return is("at(" + r + ", " + values.length + ")", FINDING).is("finding()", BEYOND);
    }

    Case rowIsMissing(int r) {
        return is("at(" + r + ", 0)", FINDING).is("finding()", NOTHING);
    }

    /** Each call is refused so, without a FINDING, and nothing has changed. */
    Case refuses(int want, String... refused) {
        for (String call : refused) {
            refuse(call, want, 0);
        }
        return this;
    }

    /** Each call is refused by that FINDING, and nothing has changed but finding(), findings(). */
    Case finds(int finding, String... refused) {
        for (String call : refused) {
            refuse(call, FINDING, finding);
        }
        return this;
    }

    private void refuse(String call, int want, int finding) {
        SecondWish refused = twin();
        long[] before = found(refused);
        due(call, answer(refused, call), want);
        long[] after = found(refused);
        due(call + ", finding()", after[0], finding == 0 ? before[0] : finding);
        for (int f = 1; f < after.length; f++) {
            due(call + ", findings(" + f + ")", after[f], before[f] + (f == finding ? 1 : 0));
        }
        List<String> seen = seen(refused);
        List<String> due = seen(twin());
        for (int i = 0; i < Math.min(due.size(), seen.size()); i++) {
            if (!seen.get(i).equals(due.get(i))) {
                fail(call + " changed something: " + seen.get(i) + ", without it " + due.get(i));
                break;
            }
        }
        if (calls.size() + 2 * before.length + 1 + seen.size() > MOST_CALLS) {
            fail(call + " is looked at by more than 512 calls");
        }
        make(call);
    }

    private long make(String call) {
        calls.add(call);
        if (calls.size() > MOST_CALLS) {
            fail("more than 512 calls");
        }
        return answer(object, call);
    }

    private SecondWish twin() {
        SecondWish twin = new SecondWish();
        for (String call : calls) {
            answer(twin, call);
        }
        return twin;
    }

    // ---- what can be seen

    /** finding(), then findings() 1 to 5. */
    private static long[] found(SecondWish s) {
        long[] found = new long[6];
        found[0] = answer(s, "finding()");
        for (int f = 1; f <= 5; f++) {
            found[f] = answer(s, "findings(" + f + ")");
        }
        return found;
    }

    /** All that can be seen of an object but its findings; it is spent by that. */
    private static List<String> seen(SecondWish s) {
        List<String> seen = new ArrayList<>();
        see(s, seen, "asked()");
        see(s, seen, "upper()");
        see(s, seen, "lower()");
        see(s, seen, "digest()");
        int people = (int) see(s, seen, "count(0)");
        for (int x = 0; x < people; x++) {
            for (int kind = 1; kind <= 5; kind++) {
                see(s, seen, "mark(" + x + ", " + kind + ")");
            }
        }
        seeUndone(s, seen);
        for (int k = 0; k <= 2; k++) {
            see(s, seen, "on(" + k + ")");
            see(s, seen, "digest()");
            seeUndone(s, seen);
        }
        for (int x = 0; x < people; x++) {
            for (int by = 0; by < people; by++) {
                see(s, seen, "tell(" + x + ", " + by + ", 0)");
            }
        }
        return seen;
    }

    private static void seeUndone(SecondWish s, List<String> seen) {
        long sayings = see(s, seen, "count(2)");
        see(s, seen, "undo(" + (sayings - 1) + ")");
        see(s, seen, "digest()");
        see(s, seen, "undo(" + sayings / 2 + ")");
        see(s, seen, "digest()");
    }

    private static long see(SecondWish s, List<String> seen, String call) {
        long answer = answer(s, call);
        seen.add(call + " answered " + answer);
        return answer;
    }

    private static long answer(SecondWish s, String call) {
        int open = call.indexOf('(');
        String inside = call.substring(open + 1, call.length() - 1).trim();
        String[] words = inside.isEmpty() ? new String[0] : inside.split(", *");
        Object[] numbers = new Object[words.length];
        for (int i = 0; i < words.length; i++) {
            numbers[i] = words[i].equals("LEAST") ? LEAST : words[i].equals("GREATEST") ? GREATEST : Integer.parseInt(words[i]);
        }
        try {
            return ((Number) METHODS.get(call.substring(0, open)).invoke(s, numbers)).longValue();
        } catch (ReflectiveOperationException e) {
            fail(call + " threw " + e.getCause());
            return Long.MIN_VALUE;
        }
    }
}
