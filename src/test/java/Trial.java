import java.lang.reflect.InvocationTargetException;
import java.lang.reflect.Method;
import java.lang.reflect.Modifier;
import java.util.ArrayList;
import java.util.HashMap;
import java.util.List;
import java.util.Map;
import java.util.Set;
import java.util.TreeMap;
import java.util.TreeSet;

/**
 * One sentence of the document, held call by call: against the answer that is due, and against the naive model.
 * A call is written as in the document, for instance "lay(0, 7)". The naive model never gets a refused call,
 * so whatever such a call changes shows in what the program answers afterwards.
 */
final class Trial {
    static final int UNKNOWN = -1, BAD = -2, LATE = -3, FULL = -4, NONE = -9;
    private static final int MOST_CALLS = 512;
    private static final Map<String, Set<String>> QUOTES = new TreeMap<>();
    private static final Map<String, Method> OF_PROGRAM = callsOf(PeriodSlots.class);
    private static final Map<String, Method> OF_NAIVE = callsOf(Naive.class);

    private final String sentence;
    private final List<String> calls = new ArrayList<>();
    private PeriodSlots slots = new PeriodSlots();
    private Naive naive = new Naive();

    private Trial(String sentence) {
        this.sentence = sentence;
    }

    /** Begins the test of a sentence, which must stand in the document word by word. */
    static Trial of(int promise, String words) {
        Due.holds(Document.heading(promise) + ": the document says '" + words + "'", Document.says(promise, words));
        QUOTES.computeIfAbsent(Document.heading(promise), heading -> new TreeSet<>()).add(words);
        return new Trial(Document.heading(promise) + ", '" + words + "'");
    }

    /** Tells if a test of the promise, or one of any promise if the heading is no promise's, quotes the sentence. */
    static boolean isQuoted(String heading, String sentence) {
        for (Map.Entry<String, Set<String>> quotes : QUOTES.entrySet()) {
            boolean counts = !heading.startsWith("Promise ") || heading.equals(quotes.getKey());
            for (String quote : quotes.getValue()) {
                if (counts && (sentence.contains(quote) || quote.contains(sentence))) {
                    return true;
                }
            }
        }
        return false;
    }

    // ---- How the object comes to be

    Trial fresh() {
        Due.holds(sentence + ": at most 512 calls, but " + calls.size(), calls.size() <= MOST_CALLS);
        slots = new PeriodSlots();
        naive = new Naive();
        calls.clear();
        return this;
    }

    Trial type(String text) {
        for (char letter : text.toCharArray()) {
            does("write(" + (int) letter + ")");
        }
        return this;
    }

    /** Begins with a new object, and makes the field of the text. */
    Trial made(String text) {
        fresh().type(text).does("field()");
        Due.holds(sentence + ": " + text + " is correct", naive.fault() == NONE);
        return this;
    }

    /**
     * A field in which something stands everywhere, so that whatever a call changes shows: an old offset, acts,
     * observations, a random state, different slots, and a text (of five stations) that is not the field's.
     * Stations 0, 1 and 2 are one net, and station 3 is another.
     */
    Trial rich() {
        made("S1aS2aS3cS2-L01").type("S3e");
        does("see(1, 0, 1)", "see(0, 3, 2)", "seed(77)", "turn(1, 2)", "keep(0)", "lay(2, 6)", "keep(1)");
        is("round()", 2).is("station(0, 2)", 0).is("about(8)", 3);
        return this;
    }

    // ---- What is asked

    Trial is(String call, long want) {
        calls.add(call);
        compare(call, answer(slots, call), want);
        compare("the naive model's " + call, answer(naive, call), want);
        return this;
    }

    /** Asks the same with 0, 1 and so on in place of #. */
    Trial are(String call, long... wants) {
        for (int k = 0; k < wants.length; k++) {
            is(call.replace("#", "" + k), wants[k]);
        }
        return this;
    }

    /** Makes calls that are only the way to what the sentence says. */
    Trial does(String... all) {
        for (String call : all) {
            calls.add(call);
            compare(call, answer(slots, call), answer(naive, call));
        }
        return this;
    }

    Trial times(int count, String call) {
        for (int k = 0; k < count; k++) {
            does(call);
        }
        return this;
    }

    /** Writes the text into a new buffer and checks its error position; field() must agree with it. */
    Trial fault(String text, int want) {
        fresh().type(text).is("fault()", want);
        return want == NONE ? does("field()") : refuses("field()", LATE);
    }

    /** The call answers with this error (or value), and all later calls answer as if it had not been made. */
    Trial refuses(String call, long want) {
        PeriodSlots program = new PeriodSlots();
        Naive model = new Naive();
        replay(program, model);
        compare(call, answer(program, call), want);
        later(call, laterCalls(model), program, model);
        // A second object, because a field() between the others would hide what they show.
        program = new PeriodSlots();
        model = new Naive();
        replay(program, model);
        answer(program, call);
        later(call, laterField(), program, model);
        return this;
    }

    /** The call only asks: it answers so twice, and later calls answer as if it had not been made. */
    Trial leaves(String call, long want) {
        return refuses(call, want).is(call, want).is(call, want);
    }

    /** Refuses the numbers just below and just above those that there are, and those far out, in place of #. */
    Trial refusesOutside(String call, long lowest, long highest, long error) {
        refuses(call.replace("#", "" + (lowest - 1)), error);
        refuses(call.replace("#", "" + (highest + 1)), error);
        refuses(call.replace("#", "" + Integer.MIN_VALUE), error);
        return refuses(call.replace("#", "" + Integer.MAX_VALUE), error);
    }

    // ---- Later calls

    private void replay(PeriodSlots program, Naive model) {
        for (String before : calls) {
            answer(program, before);
            answer(model, before);
        }
    }

    private void later(String refused, List<String> all, PeriodSlots program, Naive model) {
        int made = calls.size() + 1 + all.size();
        Due.holds(told(refused) + ": at most 512 calls, but " + made, made <= MOST_CALLS);
        for (String call : all) {
            compare(refused + " and later " + call, answer(program, call), answer(model, call));
        }
    }

    // The order matters: whatever one call wipes away is looked at before it.
    private static List<String> laterCalls(Naive model) {
        int n = model.about(0);
        List<String> all = new ArrayList<>();
        addAll(all, "about(#)", 11);
        for (int v = 0; v < n; v++) {
            addAll(all, "station(" + v + ", #)", 10);
        }
        addAll(all, "ahead(#)", 4);
        addAll(all, "which(#)", n);
        all.addAll(List.of("fault()", "plan(-1)", "drawn(2)", "seed(5)", "drawn(1)", "unsee()"));
        for (int k = model.about(8); k >= 0; k--) {
            all.add("undo()");
            addGlance(all, n);
        }
        for (int slot = 0; slot < 2; slot++) {
            all.add("again(" + slot + ")");
            addGlance(all, n);
        }
        all.addAll(List.of("write(83)", "fault()", "wipe()", "fault()", "undo()", "about(8)"));
        return all;
    }

    private static List<String> laterField() {
        List<String> all = new ArrayList<>(List.of("field()"));
        addGlance(all, 8);
        all.addAll(List.of("again(0)", "again(1)", "undo()", "about(0)", "about(9)", "about(10)", "seed(1)"));
        return all;
    }

    private static void addGlance(List<String> all, int n) {
        all.add("about(1)");
        all.add("about(3)");
        addAll(all, "station(#, 1)", n);
        addAll(all, "station(#, 2)", n);
        addAll(all, "station(#, 5)", n);
    }

    private static void addAll(List<String> all, String call, int count) {
        for (int k = 0; k < count; k++) {
            all.add(call.replace("#", "" + k));
        }
    }

    // ---- Calls

    private void compare(String call, long got, long want) {
        Due.is(got == want ? call : told(call), got, want);
    }

    private String told(String call) {
        int first = Math.max(0, calls.size() - 12);
        return sentence + ": " + call + " [after " + String.join("; ", calls.subList(first, calls.size())) + "]";
    }

    /** Makes the call on a PeriodSlots or a Naive, and returns its answer. */
    static long answer(Object target, String call) {
        int open = call.indexOf('(');
        String inside = call.substring(open + 1, call.length() - 1);
        String[] words = inside.isEmpty() ? new String[0] : inside.split(", ");
        Method method = (target instanceof Naive ? OF_NAIVE : OF_PROGRAM).get(call.substring(0, open));
        if (method == null || method.getParameterCount() != words.length) {
            throw new IllegalArgumentException("no such call: " + call);
        }
        return invoke(target, method, words);
    }

    private static Map<String, Method> callsOf(Class<?> type) {
        Map<String, Method> all = new HashMap<>();
        for (Method method : type.getDeclaredMethods()) {
            boolean isCall = !Modifier.isPrivate(method.getModifiers()) && !Modifier.isStatic(method.getModifiers());
            if (isCall) {
                all.put(method.getName(), method);
            }
        }
        return all;
    }

    private static long invoke(Object target, Method method, String[] words) {
        Object[] values = new Object[words.length];
        for (int k = 0; k < words.length; k++) {
            Class<?> type = method.getParameterTypes()[k];
            if (type == int.class) {
                values[k] = Integer.parseInt(words[k]);
            } else {
                values[k] = type == long.class ? Long.parseLong(words[k]) : words[k].equals("true");
            }
        }
        try {
            return ((Number) method.invoke(target, values)).longValue();
        } catch (IllegalAccessException | InvocationTargetException e) {
            throw new IllegalStateException(target.getClass() + " threw in " + method.getName(), e);
        }
    }
}
