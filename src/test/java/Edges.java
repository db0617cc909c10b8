import java.lang.reflect.Method;
import java.util.Map;
import java.util.TreeMap;

/**
 * Tests of single sentences of the document. A run of calls is told as a text, such as
 * "gives(0,1)=NONE 3*evening()=2": each call with the answer that is due, a number ahead of * says how often.
 */
final class Edges {
    static final int BAD = -1, STATE = -2, FULL = -3, NONE = -9, NO = -1000000;
    static final int LOW = Integer.MIN_VALUE, HIGH = Integer.MAX_VALUE;
    private static final int MOST_CALLS = 512;
    private static final Map<String, Integer> WORDS = Map.of("BAD", BAD, "STATE", STATE, "FULL", FULL, "NONE", NONE,
        "NO", NO, "LOW", LOW, "HIGH", HIGH);
    private static final Map<String, Method> FACE = new TreeMap<>();

    private final Due due = new Due();
    private String sentence = "";
    private int askedBefore = -1;

    static {
        for (Method m : PaidRests.class.getDeclaredMethods()) {
            FACE.put(m.getName(), m);
        }
    }

    /** What is asked from here on is asked for this sentence; one for which nothing is asked is a fault of the test. */
    void sentence(String words) {
        due.holds("something is asked for: " + sentence, due.asked() > askedBefore);
        askedBefore = due.asked() + 1;
        sentence = words;
    }

    void end(String test) {
        sentence("");
        due.end(test);
    }

    void is(String call, long want, long got) {
        due.is("'" + sentence + "': " + call, want, got);
    }

    /** A text that is read, and what the calls behind it answer; "" is a new object to which nothing is told. */
    PaidRests run(String text, String calls) {
        PaidRests x = new PaidRests();
        if (!text.isEmpty()) {
            is("score of " + text, items(text), Due.tell(x, text));
        }
        int made = calls(x, text, calls);
        is("calls made, which are 512 at most", 1, text.length() + 1 + made <= MOST_CALLS ? 1 : 0);
        return x;
    }

    /** More calls on an object, without a look at how many there were. */
    int calls(PaidRests x, String where, String calls) {
        int made = 0;
        for (String call : calls.trim().split("\\s+")) {
            int times = call.indexOf('*') < 0 ? 1 : Integer.parseInt(call.substring(0, call.indexOf('*')));
            String one = call.substring(call.indexOf('*') + 1);
            for (int i = 0; i < times; i++, made++) {
                check(x, where, one);
            }
        }
        return made;
    }

    private void check(PaidRests x, String where, String call) {
        String asked = call.substring(0, call.indexOf('='));
        long want = number(call.substring(call.indexOf('=') + 1));
        is(asked + " of " + where, want, ask(x, asked));
    }

    /** The answer to a call such as "gives(0,1)". */
    static long ask(PaidRests x, String call) {
        int open = call.indexOf('('), close = call.indexOf(')');
        String[] told = close == open + 1 ? new String[0] : call.substring(open + 1, close).split(",");
        Object[] given = new Object[told.length];
        for (int i = 0; i < told.length; i++) {
            given[i] = number(told[i]);
        }
        try {
            return ((Number) FACE.get(call.substring(0, open)).invoke(x, given)).longValue();
        } catch (ReflectiveOperationException e) {
            throw new IllegalStateException("could not make the call " + call, e);
        }
    }

    private static int number(String word) {
        return WORDS.containsKey(word) ? WORDS.get(word) : Integer.parseInt(word);
    }

    private static int items(String text) {
        return text.length() - text.replace(";", "").length();
    }

    /** A text with a FAULT: it is told to an object that has a score already. */
    void fault(String text, int place) {
        PaidRests x = new PaidRests();
        Due.tell(x, "b2;p1nr;m1 0;w7;f3;");
        is("score of " + text, -10 - place, Due.tell(x, text));
        is("the text stays: " + text, text.length(), x.count(6));
        is("nothing changes: " + text, 10000 + 1000 + 200 + 70 + 3,
            10000 * x.count(0) + 1000 * x.count(1) + 100 * x.count(2) + 10 * x.count(3) + x.count(4));
    }

    void reads(String text, int items) {
        PaidRests x = new PaidRests();
        is("score of " + text, items, Due.tell(x, text));
        is("the text is empty: " + text, 0, x.count(6));
    }
}
