import java.util.ArrayList;
import java.util.Arrays;
import java.util.HashMap;
import java.util.List;
import java.util.Map;
import java.util.Set;

/**
 * Holds one call at an edge of the document against what is due: its answer, what status() tells behind it, and all
 * that can be asked, waved, worn, forged and undone behind it, which a refused call leaves as it was.
 */
final class Edge {
    private static final Set<String> KEPT = Set.of("bar", "strip", "line", "wear", "cut", "thing", "heat", "hang",
            "strike", "hook", "brick", "shift", "flag", "cue", "hush", "go");
    private static final Set<String> TAPE = Set.of("tell", "forge", "clear");
    private static final int MOST_KEPT = 60;
    /** As many for every object, so that how long the way was is not seen in the answers. */
    private static final int PROBES_OF_ONE = 120;
    /** Calls that are independent of each other, and so may be spread over several objects. */
    private static final List<Run.Call> STATE_PROBES = stateProbes();
    private static final List<Run.Call> TAPE_PROBES = tapeProbes();
    private static final List<Run.Call> CHECK_PROBES = Run.read("check; status 0; status 1");

    private final Map<String, double[]> states = new HashMap<>();
    private final Map<String, double[]> tapes = new HashMap<>();
    private String promise = "";
    private int edges = 0;
    private int wrong = 0;

    void promise(int number) {
        promise = "promise " + number;
    }

    void terms(int block) {
        promise = "terms " + block;
    }

    /** A call that is refused. */
    void no(String why, String way, String call, int finding) {
        no(why, way, call, finding, 0);
    }

    void no(String why, String way, String call, int finding, int subject) {
        Run run = begin(way);
        is(why, call, run.make(call), Due.NONE);
        status(why, run, call, finding, subject, run.refused() + 1);
        end(why, run);
        sameAll(why + ": the refused " + call, way, way + ";!" + call);
    }

    /** A call that is refused with each of some numbers in the place of its "#". */
    void noEach(String why, String way, String call, int finding, int... numbers) {
        for (int number : numbers) {
            no(why, way, call.replace("#", Integer.toString(number)), finding);
        }
    }

    /** An act that is done. */
    void yes(String why, String way, String call, double answer) {
        yes(why, way, call, answer, "");
    }

    /** An act that is done, with the answers of calls behind it: "at 0 3 = 2; told 3 = 1". */
    void yes(String why, String way, String call, double answer, String behind) {
        Run run = begin(way);
        int kept = (int) run.make("told 6");
        is(why, call, run.make(call), answer);
        status(why, run, call, 0, 0, run.refused());
        String name = new Run.Call(call).name;
        if (KEPT.contains(name)) {
            is(why, "told 6", run.make("told 6"), Math.min(MOST_KEPT, kept + 1));
        }
        answers(why, run, behind);
        end(why, run);
        leaves(why, name, kept, way, way + ";" + call);
    }

    /** What an act that was done leaves as it was. */
    private void leaves(String why, String name, int kept, String way, String behind) {
        if (TAPE.contains(name)) {
            same(why + ": behind " + name, state(way), state(behind));
            return;
        }
        same(why + ": the TAPE behind " + name, tape(way), tape(behind));
        if (KEPT.contains(name) && kept < MOST_KEPT) {
            sameAll(why + ": undone " + name, way, behind + "; undo");
        } else if (!KEPT.contains(name) && !name.equals("undo")) {
            sameAll(why + ": behind " + name, way, behind);
        }
    }

    void yesEach(String why, String way, String call, double answer, int... numbers) {
        for (int number : numbers) {
            yes(why, way, call.replace("#", Integer.toString(number)), answer);
        }
    }

    /** A check() that comes to a step that can not be done. */
    void judged(String why, String way, int steps, int finding, int subject) {
        Run run = begin(way);
        is(why, "check", run.make("check"), steps);
        status(why, run, "check", finding, subject, run.refused());
        end(why, run);
        sameAll(why + ": behind check", way, way + "; check");
    }

    /** Questions, "at 0 3 = 2; told 3 = 1": they change nothing, not even what status() tells. */
    void asked(String why, String way, String questions) {
        Run run = begin(way);
        int finding = (int) run.make("status 0");
        int subject = (int) run.make("status 1");
        answers(why, run, questions);
        status(why, run, "questions", finding, subject, run.refused());
        end(why, run);
        StringBuilder asking = new StringBuilder(way);
        for (String piece : questions.split(";")) {
            if (!piece.isBlank()) {
                asking.append(";?").append(piece, 0, piece.indexOf('='));
            }
        }
        sameAll(why + ": behind the questions", way, asking.toString());
    }

    /** A question that answers NONE with each of some numbers in the place of its "#". */
    void noneEach(String why, String way, String question, int... numbers) {
        StringBuilder all = new StringBuilder();
        for (int number : numbers) {
            all.append(question.replace("#", Integer.toString(number))).append(" = NONE;");
        }
        asked(why, way, all.toString());
    }

    void end() {
        System.out.println(wrong == 0 ? edges + " edges hold" : wrong + " answers at " + edges + " edges are not as due");
        if (wrong != 0) {
            System.exit(1);
        }
    }

    // ---- texts

    /** A text once for each number from 0 on, which is put in the place of its "#". */
    static String times(int n, String text) {
        return from(0, n, text);
    }

    static String from(int first, int behindLast, String text) {
        StringBuilder all = new StringBuilder();
        for (int i = first; i < behindLast; i++) {
            all.append(text.replace("#", Integer.toString(i))).append("; ");
        }
        return all.toString();
    }

    /** Bars from 0 on with two strong lines each, at their outermost places. */
    static String strong(int bars, int places, int gap) {
        StringBuilder all = new StringBuilder();
        for (int bar = 0; bar < bars; bar++) {
            all.append("bar ").append(bar).append(' ').append(places).append(' ').append(gap).append("; ");
            all.append("line ").append(bar).append(" 0 1 30000; ");
            all.append("line ").append(bar).append(' ').append(places - 1).append(" 1 30000; ");
        }
        return all.toString();
    }

    // ---- holding

    private Run begin(String way) {
        edges++;
        return new Run(true).lead(Run.read(way));
    }

    private void end(String why, Run run) {
        for (String fault : run.faults()) {
            fault(why + ": " + fault);
        }
    }

    private void status(String why, Run run, String call, int finding, int subject, int refused) {
        is(why, call + ", status(0)", run.make("status 0"), finding);
        is(why, call + ", status(1)", run.make("status 1"), subject);
        is(why, call + ", status(2)", run.make("status 2"), refused);
    }

    private void answers(String why, Run run, String due) {
        for (String piece : due.split(";")) {
            if (!piece.isBlank()) {
                int sign = piece.indexOf('=');
                String call = piece.substring(0, sign).strip();
                String want = piece.substring(sign + 1).strip();
                is(why, call, run.make(call), want.contains(".") ? Double.parseDouble(want) : wholeNumber(want));
            }
        }
    }

    private static double wholeNumber(String word) {
        return word.equals("NONE") ? Due.NONE : Long.parseLong(word);
    }

    private void is(String why, String call, double got, double want) {
        if (got != want) {
            fault(why + ": " + call + " answered " + Run.told(got) + ", due is " + Run.told(want));
        }
    }

    private void fault(String what) {
        wrong++;
        System.out.println(promise + ": " + what);
    }

    private void sameAll(String why, String way, String behind) {
        same(why, state(way), state(behind));
        same(why + ", the TAPE", tape(way), tape(behind));
        same(why + ", a check", spread(leadOf(way), CHECK_PROBES), spread(leadOf(behind), CHECK_PROBES));
    }

    private void same(String why, double[] before, double[] behind) {
        if (!Arrays.equals(before, behind)) {
            fault(why + " changed something");
        }
    }

    // ---- all that can be told

    private double[] state(String way) {
        return states.computeIfAbsent(way, Edge::readState);
    }

    private double[] tape(String way) {
        return tapes.computeIfAbsent(way, w -> spread(leadOf(w), TAPE_PROBES));
    }

    private static double[] readState(String way) {
        List<Run.Call> lead = leadOf(way);
        double[] now = spread(lead, STATE_PROBES);
        double[] undone = undoAll(lead);
        List<Run.Call> one = new ArrayList<>(lead);
        one.add(new Run.Call("undo"));
        double[] earlier = spread(one, STATE_PROBES);
        double[] all = Arrays.copyOf(now, now.length + undone.length + earlier.length);
        System.arraycopy(undone, 0, all, now.length, undone.length);
        System.arraycopy(earlier, 0, all, now.length + undone.length, earlier.length);
        return all;
    }

    /** A "?" marks a question on the way; here it is asked like any other call. */
    private static List<Run.Call> leadOf(String way) {
        return Run.read(way.replace("?", ""));
    }

    private static double[] spread(List<Run.Call> lead, List<Run.Call> probes) {
        double[] answers = new double[probes.size()];
        Run run = null;
        int left = 0;
        for (int i = 0; i < answers.length; i++) {
            // A status belongs to the act ahead of it, and so to the same object.
            if (left <= 0 && !probes.get(i).name.equals("status")) {
                run = new Run(false).lead(lead);
                left = PROBES_OF_ONE;
            }
            answers[i] = run.make(probes.get(i));
            left--;
        }
        return answers;
    }

    /** Every kept act undone, one behind the other, with what told() tells then: one object for each of its numbers. */
    private static double[] undoAll(List<Run.Call> lead) {
        int[] whats = {0, 1, 2, 3, 9};
        double[] answers = new double[whats.length * 2 * (MOST_KEPT + 1)];
        int i = 0;
        for (int what : whats) {
            Run run = new Run(false).lead(lead);
            for (int undone = 0; undone <= MOST_KEPT; undone++) {
                answers[i++] = run.make("undo");
                answers[i++] = run.make("told " + what);
            }
        }
        return answers;
    }

    private static List<Run.Call> stateProbes() {
        StringBuilder all = new StringBuilder("least; ");
        for (int what = 0; what < 10; what++) {
            all.append(what == 7 ? "" : "told " + what + "; ");
        }
        for (int bar = 0; bar < 12; bar++) {
            all.append("load ").append(bar).append("; even ").append(bar).append("; ");
            all.append(times(9, "barOf " + bar + " #")).append(times(16, "at " + bar + " #"));
        }
        all.append(times(40, "share #; strength #"));
        for (int i = 0; i < 80; i++) {
            all.append(times(7, "of " + i + " #"));
            all.append(i < 60 ? times(5, "cueOf " + i + " #") : "");
            all.append(i < 40 ? times(5, "stop " + i + " #") : "");
        }
        all.append(times(8, "wave #"));
        // What strength a part has left, and whether a line that is not there was told: a wear by 0 tells.
        for (int line = 0; line < 40; line++) {
            all.append("wear ").append(line).append(" 0 0; status 0; ");
            all.append(from(1, 8, "wear " + line + " # 0"));
        }
        return Run.read(all.toString());
    }

    private static List<Run.Call> tapeProbes() {
        StringBuilder all = new StringBuilder("told 7; ");
        for (int step = 0; step < 40; step++) {
            all.append(times(5, "forge " + step + " # 1"));
        }
        return Run.read(all.toString());
    }
}
