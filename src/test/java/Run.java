import java.util.ArrayList;
import java.util.HashMap;
import java.util.List;
import java.util.Map;

/**
 * One object and the calls that are made on it, written as text: "bar 0 8 10; !bar 0 8 10; hang 0 0 3". A "!" says
 * that the call is to be refused. Each call is made on the second writing too, which is to answer the same.
 */
final class Run {
    private static final int MOST_CALLS = 512;
    private static final Map<String, Integer> WORDS = new HashMap<>();

    static {
        WORDS.put("MIN", Integer.MIN_VALUE);
        WORDS.put("MAX", Integer.MAX_VALUE);
        WORDS.put("NONE", Due.NONE);
        WORDS.put("CLOTH", Due.CLOTH);
        WORDS.put("BORDER", Due.BORDER);
        WORDS.put("LAMP", Due.LAMP);
        WORDS.put("SET", Due.SET);
        WORDS.put("FLYER", Due.FLYER);
        WORDS.put("on", 1);
        WORDS.put("off", 0);
    }

    static final class Call {
        final String text;
        final String name;
        final int[] numbers;
        final boolean isRefused;

        Call(String text) {
            this.text = text;
            isRefused = text.startsWith("!");
            String[] words = text.substring(isRefused ? 1 : 0).split(" ");
            name = words[0];
            numbers = new int[words.length - 1];
            for (int i = 0; i < numbers.length; i++) {
                numbers[i] = number(words[i + 1]);
            }
        }
    }

    static int number(String word) {
        return WORDS.containsKey(word) ? WORDS.get(word) : Integer.parseInt(word);
    }

    static List<Call> read(String text) {
        List<Call> calls = new ArrayList<>();
        for (String piece : text.split(";")) {
            if (!piece.isBlank()) {
                calls.add(new Call(piece.strip()));
            }
        }
        return calls;
    }

    private final RiggingLoft loft = new RiggingLoft();
    private final NaiveLoft second;
    private final List<String> faults = new ArrayList<>();
    private int calls = 0;
    private int refused = 0;

    /** Without its second writing a run is fast: enough where two runs of the class are held against each other. */
    Run(boolean withSecond) {
        second = withSecond ? new NaiveLoft() : null;
    }

    /** The calls that lead up to what is tested: they are done, but for those with a "!". */
    Run lead(List<Call> way) {
        for (Call call : way) {
            boolean isNone = make(call) == Due.NONE;
            refused += call.isRefused ? 1 : 0;
            if (isNone != call.isRefused) {
                faults.add("on the way " + call.text + (isNone ? " was refused" : " was not refused"));
            }
        }
        return this;
    }

    double make(Call call) {
        calls++;
        if (calls > MOST_CALLS) {
            throw new IllegalStateException("an object is used for at most 512 calls: " + call.text);
        }
        double answer = Callers.onClass(loft, call.name, call.numbers);
        if (second != null) {
            double other = Callers.onNaive(second, call.name, call.numbers);
            if (other != answer) {
                faults.add(call.text + " answered " + told(answer) + ", the second writing " + told(other));
            }
        }
        return answer;
    }

    double make(String call) {
        return make(new Call(call));
    }

    /** How many calls the object is still good for. */
    int room() {
        return MOST_CALLS - calls;
    }

    /** How many acts on the way were refused. */
    int refused() {
        return refused;
    }

    List<String> faults() {
        return faults;
    }

    static String told(double answer) {
        return answer == Math.rint(answer) ? Long.toString((long) answer) : Double.toString(answer);
    }
}
