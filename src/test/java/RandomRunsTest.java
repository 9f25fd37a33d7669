import java.util.Map;
import java.util.Random;
import java.util.TreeMap;

/** Holds the class against NaiveLoft in runs of random calls, and looks that every finding came up. */
public final class RandomRunsTest {
    private static final int RUNS = 1200;
    private static final int ACTS = 380;
    private static final int[] ODD = {Integer.MIN_VALUE, Integer.MIN_VALUE + 1, -1000000000, -2, -1, 0, 1, 2, 5, 7, 8, 11,
        12, 13, 15, 16, 17, 30, 31, 39, 40, 41, 60, 80, 99, 100, 101, 200, 201, 2000, 2001, 30000, 30001, 80001, 400001,
        1000001, Integer.MAX_VALUE - 1, Integer.MAX_VALUE};
    private static final String[] KEPT = {"bar", "strip", "line", "wear", "cut", "thing", "heat", "hang", "strike",
        "hook", "brick", "shift", "flag", "cue", "hush", "go"};
    private static final int[][] LISTED = {
        {2, 8, 3, 7}, {2, 1, 10, 18, 16}, {2, 1, 8, 11, 3, 7}, {2, 1, 7}, {2, 1}, {7, 11}, {2, 4, 7, 14},
        {2, 8, 1, 10, 12, 13, 14, 15}, {2, 9, 10}, {2, 1, 12}, {2, 1, 7}, {2, 1, 10, 5, 12, 13, 14, 15}, {2, 7},
        {2, 1, 7, 11}, {2, 1}, {7}};

    private final Random random;
    private final RiggingLoft it = new RiggingLoft();
    private final NaiveLoft due = new NaiveLoft();
    private final Map<String, Integer> seen;
    private final StringBuilder story = new StringBuilder();
    private final int firstBar;
    private final int bars;
    private final int places;
    private final int gap;
    private final int weight;
    private final int strength;
    private final boolean wild;
    private final boolean many;
    private boolean wrong = false;

    private RandomRunsTest(long seed, Map<String, Integer> seen) {
        this.random = new Random(seed);
        this.seen = seen;
        bars = 1 + random.nextInt(6);
        firstBar = random.nextInt(13 - bars);
        places = 3 + random.nextInt(14);
        gap = 2 + random.nextInt(20);
        weight = random.nextInt(3) == 0 ? 400000 : random.nextInt(2) == 0 ? 20000 : 60;
        strength = random.nextInt(2) == 0 ? 30000 : 3000;
        wild = random.nextInt(4) == 0;
        many = random.nextInt(6) == 0;
    }

    public static void main(String[] args) {
        Map<String, Integer> seen = new TreeMap<>();
        int runs = args.length > 0 ? Integer.parseInt(args[0]) : RUNS;
        for (int seed = 0; seed < runs; seed++) {
            RandomRunsTest run = new RandomRunsTest(seed, seen);
            run.play();
            if (run.wrong) {
                System.out.println("seed " + seed + " went wrong:");
                System.out.println(run.story);
                System.exit(1);
            }
        }
        boolean all = coversAll(seen);
        if (args.length > 0) {
            System.out.println(seen);
        }
        System.out.println(all ? "random runs are as due" : "random runs did not reach everything");
        if (!all) {
            System.exit(1);
        }
    }

    private static boolean coversAll(Map<String, Integer> seen) {
        boolean all = true;
        for (int i = 0; i < KEPT.length; i++) {
            all &= covers(seen, KEPT[i] + " 0");
            for (int finding : LISTED[i]) {
                all &= covers(seen, KEPT[i] + " " + finding);
            }
        }
        String[] others = {"wave 0", "wave 2", "wave 6", "undo 0", "undo 17", "tell 0", "tell 7", "tell 11", "forge 0",
            "forge 2", "forge 7", "clear 0", "check 0", "check 19", "check 13", "check 15", "check 10", "check 12",
            "stop 1", "stop 2", "stop 3", "stop 4", "kept 60", "group 3", "checked 6"};
        for (String other : others) {
            all &= covers(seen, other);
        }
        return all;
    }

    private static boolean covers(Map<String, Integer> seen, String what) {
        if (seen.getOrDefault(what, 0) < 3) {
            System.out.println("reached too seldom: " + what + ", " + seen.getOrDefault(what, 0) + " times");
            return false;
        }
        return true;
    }

    private void play() {
        for (int i = 0; i < ACTS && !wrong; i++) {
            if (i < 25 && !wild) {
                prepare(i);
            } else {
                oneAct();
            }
            askSome();
            if (i % 25 == 24 || i == ACTS - 1) {
                askAll();
            }
        }
        for (int i = 0; i < 65 && !wrong && many; i++) {
            act("undo", 0, 0, 0, 0, 0);
            askAll();
        }
    }

    /** A loft in which something can hang. */
    private void prepare(int i) {
        if (i < bars) {
            act("bar", firstBar + i, places, near(gap, 2), 0, 0);
        } else if (i < 3 * bars) {
            act("line", firstBar + i % bars, random.nextInt(places), 1 + random.nextInt(8), strength, 0);
        } else {
            newThing();
        }
    }

    private void newThing() {
        int kind = random.nextInt(5);
        act("thing", kind, 1 + random.nextInt(Math.min(15, gap)), 1 + random.nextInt(kind == 1 ? 6 : 20),
                random.nextInt(weight + 1), 0);
    }

    private int near(int n, int by) {
        return n - by + random.nextInt(2 * by + 1);
    }

    private int odd() {
        return random.nextInt(3) == 0 ? random.nextInt(50) - 5 : ODD[random.nextInt(ODD.length)];
    }

    /** Mostly what was meant, now and then something odd. */
    private int mostly(int n) {
        return random.nextInt(wild ? 8 : 60) == 0 ? odd() : n;
    }

    private int someBar() {
        return mostly(firstBar + random.nextInt(bars));
    }

    private int somePlace() {
        return mostly(random.nextInt(places));
    }

    private int someThing() {
        return mostly(random.nextInt(Math.max(1, due.told(2))));
    }

    private int looseThing() {
        for (int i = 0; i < 6; i++) {
            int thing = random.nextInt(Math.max(1, due.told(2)));
            if (due.of(thing, 3) == NaiveLoft.NONE) {
                return mostly(thing);
            }
        }
        return someThing();
    }

    private int someLine() {
        return mostly(random.nextInt(random.nextInt(5) == 0 ? 41 : 2 + 2 * bars));
    }

    /** Of what is told there is a most: such runs come to it. */
    private void tellMuch() {
        switch (random.nextInt(4)) {
            case 0:
                act("line", someBar(), somePlace(), 1, strength, 0);
                act("cut", due.told(1) == 0 ? 0 : random.nextInt(41), 0, 0, 0, 0);
                break;
            case 1:
                newThing();
                newThing();
                break;
            case 2:
                act("cue", someBar(), step(), due.told(9) + random.nextInt(3), 1 + random.nextInt(5), 0);
                break;
            default:
                tellOne();
        }
    }

    /** Bars that are high let nothing be hung: they are brought down. */
    private void bringDown() {
        for (int bar = firstBar; bar < firstBar + bars; bar++) {
            if (due.barOf(bar, 2) > 0) {
                act("hush", bar, 0, 0, 0, 0);
                int want = due.even(bar);
                act("brick", bar, want, 0, 0, 0);
                act("cue", bar, -5, due.told(9), 20, 0);
            }
        }
        act("go", 20 + random.nextInt(3), 0, 0, 0, 0);
    }

    private void oneAct() {
        if (many && random.nextInt(3) == 0) {
            tellMuch();
            return;
        }
        if (random.nextInt(12) == 0) {
            bringDown();
            return;
        }
        switch (random.nextInt(34)) {
            case 0:
                act("bar", someBar(), mostly(near(places, 1)), mostly(near(gap, 3)), 0, 0);
                break;
            case 1:
                act("strip", someBar(), 0, 0, 0, 0);
                break;
            case 2:
            case 3:
                act("line", someBar(), somePlace(), mostly(1 + random.nextInt(8)), mostly(strength), 0);
                break;
            case 4:
                act("wear", someLine(), mostly(random.nextInt(3)), mostly(random.nextInt(9000)), 0, 0);
                break;
            case 5:
                act("cut", someLine(), 0, 0, 0, 0);
                break;
            case 6:
            case 7:
                oneThing();
                break;
            case 8:
                act("heat", lamp(), mostly(random.nextInt(2) * random.nextInt(80001)), 0, 0, 0);
                break;
            case 9:
            case 10:
            case 11:
            case 12:
            case 13:
                act("hang", looseThing(), someBar(), somePlace(), 0, 0);
                break;
            case 14:
                act("strike", someThing(), 0, 0, 0, 0);
                break;
            case 15:
                act("hook", someBar(), somePlace(), random.nextInt(2), 0, 0);
                break;
            case 16:
                act("brick", someBar(), mostly(random.nextInt(7) - 3), 0, 0, 0);
                break;
            case 17:
            case 18:
            case 19:
                evenOut();
                break;
            case 20:
            case 21:
                act("shift", someBar(), somePlace(), somePlace(), mostly(random.nextInt(4)), 0);
                break;
            default:
                otherAct();
        }
    }

    private void oneThing() {
        if (random.nextInt(4) == 0) {
            act("thing", mostly(random.nextInt(5)), mostly(5), mostly(5), mostly(random.nextInt(weight + 1)), 0);
        } else {
            newThing();
        }
    }

    private int lamp() {
        for (int i = 0; i < 10; i++) {
            int thing = random.nextInt(Math.max(1, due.told(2)));
            if (due.of(thing, 0) == 2) {
                return mostly(thing);
            }
        }
        return someThing();
    }

    private void evenOut() {
        int bar = someBar();
        int want = due.even(bar);
        act("brick", bar, want == NaiveLoft.NONE ? 1 : want, 0, 0, 0);
    }

    private void otherAct() {
        switch (random.nextInt(16)) {
            case 0:
                act("flag", mostly(random.nextInt(8)), mostly(random.nextInt(100)), 0, 0, 0);
                break;
            case 1:
                act("wave", mostly(random.nextInt(8)), 0, 0, 0, 0);
                break;
            case 2:
            case 3:
            case 4:
                act("cue", someBar(), mostly(step()), mostly(due.told(9) + random.nextInt(4)),
                        mostly(1 + random.nextInt(12)), 0);
                break;
            case 5:
                act("hush", someBar(), 0, 0, 0, 0);
                break;
            case 6:
            case 7:
            case 8:
            case 9:
                act("go", mostly(1 + random.nextInt(random.nextInt(4) == 0 ? 100 : 6)), 0, 0, 0, 0);
                break;
            case 10:
                int most = many ? 2 : random.nextInt(5) == 0 ? 30 : 3;
                for (int i = random.nextInt(most); i >= 0; i--) {
                    act("undo", 0, 0, 0, 0, 0);
                }
                break;
            case 11:
            case 12:
                tellOne();
                break;
            case 13:
                act("forge", mostly(random.nextInt(1 + due.told(7))), mostly(random.nextInt(5)),
                        mostly(random.nextInt(7)), 0, 0);
                break;
            case 14:
                if (random.nextInt(many ? 100 : 4) == 0) {
                    act("clear", 0, 0, 0, 0, 0);
                }
                break;
            default:
                act("check", 0, 0, 0, 0, 0);
                healTape();
        }
    }

    /** 1 to 5 up or down, rather to where there is room. */
    private int step() {
        int step = 1 + random.nextInt(5);
        return random.nextInt(3) == 0 ? -step : step;
    }

    private void tellOne() {
        switch (1 + random.nextInt(5)) {
            case 1:
                act("tell", 1, looseThing(), someBar(), somePlace(), mostly(1 + random.nextInt(3)));
                break;
            case 2:
                act("tell", 2, someThing(), random.nextInt(9), 0, somePlace());
                break;
            case 3:
                act("tell", 3, someBar(), mostly(random.nextInt(4)), 7, mostly(random.nextInt(4)));
                break;
            case 4:
                act("tell", 4, someBar(), mostly(step()), odd(), due.told(4));
                break;
            default:
                act("tell", mostly(5), mostly(1 + random.nextInt(4)), 0, 0, random.nextInt(12));
        }
    }

    /** Forges told answers to those that came, so that a check gets on. */
    private void healTape() {
        for (int i = 0; i < 8 && due.status(0) == 19 && random.nextInt(6) != 0; i++) {
            act("forge", due.check(), 4, due.status(1), 0, 0);
            act("check", 0, 0, 0, 0, 0);
        }
    }

    private void act(String name, int a, int b, int c, int d, int e) {
        int want = (int) Callers.onNaive(due, name, a, b, c, d, e);
        int got = (int) Callers.onClass(it, name, a, b, c, d, e);
        int finding = due.status(0);
        story.append(name).append('(').append(a).append(", ").append(b).append(", ").append(c).append(", ").append(d)
                .append(", ").append(e).append(") = ").append(want).append(" finding ").append(finding).append('\n');
        hold(name, got, want);
        hold("status(0)", it.status(0), finding);
        hold("status(1)", it.status(1), due.status(1));
        hold("status(2)", it.status(2), due.status(2));
        seen.merge(name + " " + finding, 1, Integer::sum);
        if (name.equals("check") && want >= 6) {
            seen.merge("checked 6", 1, Integer::sum);
        }
        if (name.equals("go") && want >= 0 && due.stop(0, 0) != NaiveLoft.NONE) {
            seen.merge("stop " + due.stop(0, 1), 1, Integer::sum);
        }
        if (due.told(6) == 60) {
            seen.merge("kept 60", 1, Integer::sum);
        }
    }

    private void askSome() {
        int bar = someBar();
        int what = mostly(random.nextInt(10));
        hold("barOf(" + bar + ", " + what + ")", it.barOf(bar, what), due.barOf(bar, what));
        int line = someLine();
        hold("share(" + line + ")", it.share(line), due.share(line));
        int thing = someThing();
        hold("of(" + thing + ", " + what + ")", it.of(thing, what), due.of(thing, what));
        int k = odd();
        hold("at(" + bar + ", " + k + ")", it.at(bar, k), due.at(bar, k));
        hold("stop(" + k + ", " + what + ")", it.stop(k, what), due.stop(k, what));
        hold("cueOf(" + k + ", " + what + ")", it.cueOf(k, what), due.cueOf(k, what));
        hold("told(" + what + ")", it.told(what), due.told(what));
        hold("status(" + k + ")", it.status(k), due.status(k));
        hold("strength(" + k + ")", it.strength(k), due.strength(k));
        hold("even(" + k + ")", it.even(k), due.even(k));
        holdLoad(k);
        hold("least()", it.least(), due.least());
    }

    private void askAll() {
        for (int bar = -1; bar < 13; bar++) {
            for (int what = -1; what < 10; what++) {
                hold("barOf(" + bar + ", " + what + ")", it.barOf(bar, what), due.barOf(bar, what));
            }
            for (int place = -1; place < 17; place++) {
                hold("at(" + bar + ", " + place + ")", it.at(bar, place), due.at(bar, place));
            }
            hold("even(" + bar + ")", it.even(bar), due.even(bar));
            holdLoad(bar);
            if (due.barOf(bar, 6) != NaiveLoft.NONE && bar - due.barOf(bar, 6) >= 2) {
                seen.merge("group 3", 1, Integer::sum);
            }
        }
        for (int i = -1; i < 82; i++) {
            for (int what = -1; what < 8; what++) {
                hold("of(" + i + ", " + what + ")", it.of(i, what), due.of(i, what));
                hold("cueOf(" + i + ", " + what + ")", it.cueOf(i, what), due.cueOf(i, what));
                hold("stop(" + i + ", " + what + ")", it.stop(i, what), due.stop(i, what));
            }
            hold("share(" + i + ")", it.share(i), due.share(i));
            hold("strength(" + i + ")", it.strength(i), due.strength(i));
            hold("told(" + i + ")", it.told(i), due.told(i));
        }
        hold("least()", it.least(), due.least());
    }

    private void holdLoad(int bar) {
        if (it.load(bar) != due.load(bar)) {
            hold("load(" + bar + ") of " + it.load(bar) + ", due is " + due.load(bar), 0, 1);
        }
    }

    private void hold(String call, long got, long want) {
        if (got != want) {
            wrong = true;
            story.append(call).append(" answered ").append(got).append(", due is ").append(want).append('\n');
        }
    }
}
