/** The edges of promises 16 to 18 and 31 to 33, and of cues, ticks and stops in the terms. */
public final class EdgesOfCuesTest {
    private static final int MIN = Integer.MIN_VALUE;
    private static final int MAX = Integer.MAX_VALUE;
    private static final Edge edge = new Edge();

    public static void main(String[] args) {
        cue();
        cueMuch();
        hush();
        go();
        running();
        units();
        deciding();
        groups();
        ends();
        balance();
        held();
        clashOfGoing();
        clashOfDepths();
        reasonsOrder();
        reasonsByBars();
        clashPlaces();
        stopEndsCues();
        stopsKept();
        stopNone();
        cueOf();
        least();
        edge.end();
    }

    /** What stop(k, ..) is to tell. */
    private static String stop(int k, int time, int reason, int bar, String neighbour, String place) {
        String at = "stop " + k + " ";
        return at + "0 = " + time + "; " + at + "1 = " + reason + "; " + at + "2 = " + bar + "; " + at + "3 = " + neighbour
                + "; " + at + "4 = " + place + "; ";
    }

    private static String stop(int time, int reason, int bar) {
        return stop(0, time, reason, bar, "NONE", "NONE");
    }

    private static void cue() {
        edge.promise(16);
        String bar = "bar 3 8 8; ";
        edge.noEach("no such bar", bar + "bar 0 8 8; bar 11 8 8", "cue # 1 0 1", Due.BEYOND, MIN, -1, 12, MAX);
        edge.no("not rigged", bar, "cue 4 1 0 1", Due.MISSING);
        edge.no("stripped", bar + "strip 3", "cue 3 1 0 1", Due.MISSING);
        edge.noEach("step", bar, "cue 3 # 0 1", Due.NUMBER, MIN, -6, 0, 6, MAX);
        edge.noEach("tick", bar, "cue 3 1 # 1", Due.NUMBER, MIN, -1, 1000001, MAX);
        edge.noEach("ticks", bar, "cue 3 1 0 #", Due.NUMBER, MIN, -1, 0, 201, MAX);
        edge.no("a tick and its ticks at the ends of int", bar, "cue 3 1 MAX MAX", Due.NUMBER);
        edge.no("a tick and its ticks at the ends of int", bar, "cue 3 1 MIN MIN", Due.NUMBER);
        edge.no("a tick and its ticks at the ends of int", bar, "cue 3 1 1000000 MAX", Due.NUMBER);
        for (int step : new int[] {-5, -1, 1, 5}) {
            edge.yes("step " + step, bar, "cue 3 " + step + " 0 1", 0, "cueOf 0 0 = 3; cueOf 0 1 = " + step + "; cueOf 0 2 = 0; cueOf 0 3 = 1; told 4 = 1");
        }
        edge.yes("the latest tick, the most ticks", bar, "cue 3 1 1000000 200", 0, "cueOf 0 2 = 1000000; cueOf 0 3 = 200; cueOf 0 4 = 0");
        edge.yes("the first bar", "bar 0 8 8", "cue 0 1 0 1", 0, "cueOf 0 0 = 0");
        edge.yes("the last bar", "bar 11 8 8", "cue 11 1 0 1", 0, "cueOf 0 0 = 11");
        edge.yes("a tick that is over", bar + "go 9", "cue 3 1 2 3", 0, "cueOf 0 4 = 2; go 1 = 0");
        edge.no("BEYOND ahead of NUMBER", bar, "cue 12 0 0 1", Due.BEYOND);
        edge.no("MISSING ahead of NUMBER", bar, "cue 4 1 -1 1", Due.MISSING);
    }

    private static void cueMuch() {
        String sixty = "bar 3 8 8; " + Edge.times(60, "cue 3 1 # 1");
        edge.yes("the 60th cue", "bar 3 8 8; " + Edge.times(59, "cue 3 1 # 1"), "cue 3 2 7 3", 59, "told 4 = 60; cueOf 59 1 = 2; cueOf 60 0 = NONE");
        edge.no("the 61st cue", sixty, "cue 3 1 0 1", Due.MUCH);
        edge.no("the 61st cue, though all were ended", sixty + "hush 3", "cue 3 1 0 1", Due.MUCH);
        edge.no("the 61st cue, though all are over", sixty + "go 100", "cue 3 1 0 1", Due.MUCH);
        edge.no("BEYOND ahead of MUCH", sixty, "cue 12 1 0 1", Due.BEYOND);
        edge.no("MISSING ahead of MUCH", sixty, "cue 4 1 0 1", Due.MISSING);
        edge.no("NUMBER, step, ahead of MUCH", sixty, "cue 3 0 0 1", Due.NUMBER);
        edge.no("NUMBER, tick, ahead of MUCH", sixty, "cue 3 1 -1 1", Due.NUMBER);
        edge.no("NUMBER, ticks, ahead of MUCH", sixty, "cue 3 1 0 201", Due.NUMBER);
        edge.yes("the 60th was undone", sixty + "undo", "cue 3 4 7 3", 59, "cueOf 59 1 = 4");
    }

    private static void hush() {
        edge.promise(17);
        String bar = "bar 3 8 8; bar 4 8 8; ";
        edge.noEach("no such bar", bar + "bar 0 8 8; bar 11 8 8", "hush #", Due.BEYOND, MIN, -1, 12, MAX);
        edge.no("not rigged", bar, "hush 5", Due.MISSING);
        edge.yes("no cue", bar, "hush 3", 0);
        edge.yes("far ahead", bar + "cue 3 1 1000000 200", "hush 3", 1, "cueOf 0 4 = 3; least = 0");
        edge.yes("at its first tick", bar + "go 7; cue 3 1 7 1", "hush 3", 1, "cueOf 0 4 = 3; go 1 = 0");
        edge.yes("at its last tick", bar + "go 9; cue 3 1 0 10", "hush 3", 1, "cueOf 0 4 = 3; go 1 = 0");
        edge.yes("just over", bar + "go 10; cue 3 1 0 10", "hush 3", 0, "cueOf 0 4 = 2");
        edge.yes("ended already", bar + "cue 3 1 0 9; hush 3", "hush 3", 0, "cueOf 0 4 = 3");
        edge.yes("ended by a stop", bar + "cue 3 -1 0 9; go 1", "hush 3", 0);
        edge.yes("another bar's", bar + "cue 4 1 0 9; cue 3 1 0 9", "hush 3", 1, "cueOf 0 4 = 1; cueOf 1 4 = 3; go 1 = 1");
        edge.yes("all 60", bar + Edge.times(60, "cue 3 1 # 1"), "hush 3", 60, "go 100 = 0");
        edge.yes("a group's other bar", Edge.strong(2, 8, 8) + "thing FLYER 1 1 8; hang 0 0 3; cue 0 1 0 9; cue 1 1 0 9", "hush 1", 1,
                "cueOf 0 4 = 1; cueOf 1 4 = 3; go 1 = 1");
        edge.yes("the first bar", "bar 0 8 8; cue 0 1 0 1", "hush 0", 1);
        edge.yes("the last bar", "bar 11 8 8; cue 11 1 0 1", "hush 11", 1);
    }

    private static void go() {
        edge.promise(18);
        edge.noEach("n", "bar 3 8 8; cue 3 1 0 9", "go #", Due.NUMBER, MIN, -1, 0, 101, MAX);
        edge.yes("one tick", "bar 3 8 8; cue 3 1 0 9", "go 1", 1, "told 9 = 1; told 8 = 1; barOf 3 2 = 1");
        edge.yes("100 ticks", "bar 3 8 8; cue 3 1 0 200", "go 100", 100, "told 9 = 100; told 8 = 100; barOf 3 2 = 100; told 5 = 0");
        edge.yes("100 ticks of nothing", "", "go 100", 0, "told 9 = 100; told 8 = 0");
        edge.yes("up and down alike", "bar 3 8 8; bar 4 8 8; cue 4 5 0 1; go 1; cue 3 3 1 1; cue 4 -2 1 1", "go 1", 5, "told 8 = 10; barOf 3 2 = 3; barOf 4 2 = 3");
        edge.yes("a group's unit counts once", Edge.strong(3, 8, 8) + "thing FLYER 1 1 8; thing FLYER 1 1 8; hang 0 0 3; hang 1 1 4; cue 2 4 0 1", "go 1", 4,
                "barOf 0 2 = 4; barOf 1 2 = 4; barOf 2 2 = 4; told 8 = 4");
        edge.yes("all twelve bars", Edge.times(12, "bar # 2 9; cue # 5 0 20"), "go 20", 1200, Edge.times(12, "barOf # 2 = 100") + "told 8 = 1200");
    }

    /** "t is not before that one, and less than so many ticks behind it". */
    private static void running() {
        edge.terms(3);
        for (int time = 1; time < 12; time++) {
            boolean runs = time >= 5 && time < 8;
            int state = time < 5 ? 0 : runs ? 1 : 2;
            edge.yes("ticks 5 to 7, at " + time, "bar 3 8 8; go " + time + "; cue 3 2 5 3", "go 1", runs ? 2 : 0);
            edge.asked("ticks 5 to 7, at " + time, "bar 3 8 8; go " + time + "; cue 3 2 5 3", "cueOf 0 4 = " + state);
        }
        edge.yes("from tick 0 on, for one", "bar 3 8 8; cue 3 2 0 1", "go 5", 2, "cueOf 0 4 = 2");
        edge.yes("from tick 4 on, the last of five", "bar 3 8 8; cue 3 2 4 200", "go 5", 2, "cueOf 0 4 = 1");
        edge.yes("one tick too few", "bar 3 8 8; cue 3 2 5 200", "go 5", 0, "cueOf 0 4 = 1");
        edge.yes("200 ticks, the last", "bar 3 8 8; go 100; go 99; cue 3 1 0 200", "go 9", 1, "cueOf 0 4 = 2");
        edge.yes("200 ticks, over", "bar 3 8 8; go 100; go 100; cue 3 1 0 200", "go 9", 0);
        edge.yes("far ahead", "bar 3 8 8; cue 3 1 1000000 200", "go 100", 0, "cueOf 0 4 = 0");
    }

    private static void units() {
        String bar = "bar 3 8 8; ";
        for (int step = 1; step <= 5; step++) {
            edge.yes("up by " + step, bar + "cue 3 " + step + " 0 1", "go 1", step, "barOf 3 2 = " + step + "; told 5 = 0");
            edge.yes("down by " + step, bar + "cue 3 5 0 1; go 1; cue 3 -" + step + " 1 1", "go 1", step, "barOf 3 2 = " + (5 - step) + "; told 5 = 0");
        }
    }

    private static void deciding() {
        String bar = "bar 3 8 8; ";
        edge.yes("of several of one bar the least number", bar + "cue 3 2 0 9; cue 3 5 0 9", "go 1", 2);
        edge.yes("the least number that runs", bar + "cue 3 2 1 9; cue 3 5 0 9", "go 1", 5);
        edge.yes("the least number was ended", bar + "cue 3 2 0 9; hush 3; cue 3 5 0 9; cue 3 1 0 9", "go 1", 5);
        edge.yes("one behind the other", bar + "cue 3 2 1 1; cue 3 5 0 3", "go 4", 12);
        String group = Edge.strong(3, 8, 8) + "thing FLYER 1 1 8; hang 0 1 3; ";
        edge.yes("the cue of the least bar, not the least cue", group + "cue 2 5 0 9; cue 1 2 0 9", "go 1", 2, "barOf 1 2 = 2; barOf 2 2 = 2");
        edge.yes("the least bar that has one running", group + "cue 1 2 1 9; cue 2 5 0 9", "go 1", 5);
        edge.yes("a bar that is not of the group", group + "cue 2 5 0 9; cue 0 2 0 9", "go 1", 7, "barOf 0 2 = 2; barOf 1 2 = 5; barOf 2 2 = 5");
    }

    private static void groups() {
        String chain = Edge.times(12, "bar # 13 30; line # 6 1 999; line # 7 1 999") + Edge.times(11, "thing FLYER 1 1 16; hang # # #");
        edge.yes("all twelve bars belong together", chain + "cue 11 3 0 1", "go 1", 3, Edge.times(12, "barOf # 2 = 3; barOf # 6 = 0"));
        edge.yes("the chain is broken in the middle", chain + "strike 5; cue 11 3 0 1", "go 1", 3, Edge.times(6, "barOf # 2 = 0; barOf # 6 = 0")
                + Edge.from(6, 12, "barOf # 2 = 3; barOf # 6 = 6"));
        edge.asked("two FLYERS in one place are not one", Edge.strong(4, 8, 30) + "thing FLYER 1 1 8; thing FLYER 1 1 8; hang 0 0 3; hang 1 2 3",
                "barOf 0 6 = 0; barOf 1 6 = 0; barOf 2 6 = 2; barOf 3 6 = 2");
        edge.asked("a bar without a FLYER is a group by itself", Edge.strong(2, 8, 30) + "thing SET 1 1 8; thing SET 1 1 8; hang 0 0 3; hang 1 1 3",
                "barOf 0 6 = 0; barOf 1 6 = 1");
    }

    /** The reason (1): below 0 or above 100. */
    private static void ends() {
        String bar = "bar 3 8 8; ";
        edge.yes("down from 0", bar + "cue 3 -1 0 9", "go 1", 0, stop(0, 1, 3) + "barOf 3 2 = 0; told 5 = 1; cueOf 0 4 = 3");
        edge.yes("down to 0 is no stop", bar + "cue 3 5 0 1; go 1; cue 3 -5 1 1", "go 1", 5, "told 5 = 0; barOf 3 2 = 0");
        edge.yes("the further units are not done", bar + "cue 3 3 0 1; go 1; cue 3 -5 1 9", "go 1", 3, stop(1, 1, 3) + "barOf 3 2 = 0");
        edge.yes("up to 100 is no stop", bar + "cue 3 5 0 20", "go 20", 100, "told 5 = 0; barOf 3 2 = 100");
        edge.yes("up from 100", bar + "cue 3 5 0 20; go 20; cue 3 1 20 9", "go 3", 0, stop(20, 1, 3) + "barOf 3 2 = 100; told 5 = 1");
        edge.yes("up from 99, two", bar + "cue 3 1 0 99; go 99; cue 3 2 99 9", "go 1", 1, stop(99, 1, 3) + "barOf 3 2 = 100");
        edge.yes("the least bar of a group", Edge.strong(3, 8, 8) + "thing FLYER 1 1 8; hang 0 1 3; cue 2 -1 0 1", "go 1", 0, stop(0, 1, 1));
        edge.yes("the last bar", "bar 11 8 8; cue 11 -1 0 1", "go 1", 0, stop(0, 1, 11));
    }

    /** "above -1000.0f and below 1000.0f": the reason (2). */
    private static void balance() {
        String way = Edge.strong(2, 8, 8) + "cue 0 1 0 9; ";
        String[][] fine = {{"CLOTH", "7999", "0"}, {"CLOTH", "8000", "1"}, {"CLOTH", "1", "1"}, {"CLOTH", "15999", "1"}, {"CLOTH", "8001", "2"},
            {"CLOTH", "0", "0"}, {"FLYER", "15999", "0"}, {"FLYER", "1", "1"}, {"CLOTH", "200000", "25"}, {"CLOTH", "200001", "26"}};
        String[][] wrong = {{"CLOTH", "8000", "0"}, {"CLOTH", "0", "1"}, {"CLOTH", "16000", "1"}, {"CLOTH", "8000", "2"}, {"FLYER", "16000", "0"},
            {"CLOTH", "8001", "0"}, {"CLOTH", "7999", "2"}, {"CLOTH", "0", "2000"}, {"CLOTH", "240000", "29"}, {"CLOTH", "200000", "26"}};
        for (String[] it : fine) {
            String hung = way + "thing " + it[0] + " 1 1 " + it[1] + "; hang 0 0 0; brick 0 " + it[2] + (it[0].equals("FLYER") ? "; brick 1 " + it[2] : "");
            edge.yes("in balance: " + String.join(" ", it), hung, "go 1", 1, "told 5 = 0; barOf 0 8 = 1; even 0 = 0");
        }
        for (String[] it : wrong) {
            String hung = way + "thing " + it[0] + " 1 1 " + it[1] + "; hang 0 0 0; brick 0 " + it[2] + (it[0].equals("FLYER") ? "; brick 1 " + it[2] : "");
            edge.yes("not in balance: " + String.join(" ", it), hung, "go 1", 0, stop(0, 2, 0) + "barOf 0 8 = 0; cueOf 0 4 = 3");
        }
        edge.yes("a neighbour above that is not in balance", way + "brick 1 1", "go 1", 1);
        edge.yes("a neighbour below that is not in balance", "bar 0 8 8; bar 1 8 8; brick 0 1; cue 1 1 0 9", "go 1", 1);
    }

    /** The reason (3). */
    private static void held() {
        String way = "bar 0 8 8; line 0 3 1 100; thing CLOTH 1 1 800; hang 0 0 3; cue 0 1 0 9; ";
        edge.yes("just its strength", way, "go 1", 1);
        edge.yes("1 less than that", way + "wear 0 0 1", "go 1", 0, stop(0, 3, 0) + "cueOf 0 4 = 3");
        edge.yes("no line any more", way + "cut 0", "go 1", 0, stop(0, 3, 0));
        edge.yes("it turns about another line", way + "line 0 4 1 100; cut 0", "go 1", 0, stop(0, 3, 0));
        edge.yes("no thing on it, and no line", "bar 0 8 8; hook 0 3 on; cue 0 1 0 9", "go 1", 1);
        edge.yes("a neighbour below that is not held", way + "cut 0; bar 1 8 8; cue 1 1 0 9; hush 0", "go 1", 1);
        edge.yes("a neighbour above that is not held", "bar 0 8 8; bar 1 8 8; line 1 3 1 9; thing CLOTH 1 1 8; hang 0 1 3; cut 0; cue 0 1 0 9", "go 1", 1);
    }

    /** The reason (4), with bars that go up and down into what hangs on the neighbour. */
    private static void clashOfGoing() {
        for (int one = 0; one < 2; one++) {
            int two = 1 - one;
            // What hangs on the one is 10 above, and the other is below it: their ends meet.
            String way = Edge.strong(2, 8, 5) + "thing SET 3 10 8; thing SET 3 20 8; hang 0 " + one + " 3; cue " + one + " 5 0 2; go 2; hang 1 " + two + " 3; ";
            edge.yes("down into it", way + "cue " + one + " -1 2 9", "go 1", 0, stop(0, 2, 4, one, "" + two, "3") + "barOf " + one + " 2 = 10; cueOf 1 4 = 3");
            edge.yes("up into it", way + "cue " + two + " 1 2 9", "go 1", 0, stop(0, 2, 4, two, "" + one, "3") + "barOf " + two + " 2 = 0");
            edge.yes("up and away", way + "cue " + one + " 1 2 9", "go 1", 1, "told 5 = 0");
            edge.yes("until the ends meet, down", way + "cue " + one + " 3 2 1; go 1; cue " + one + " -5 3 1", "go 1", 3, stop(0, 3, 4, one, "" + two, "3"));
            edge.yes("until the ends meet, up", way + "cue " + one + " 3 2 1; go 1; cue " + two + " 5 3 1", "go 1", 3, stop(0, 3, 4, two, "" + one, "3"));
            edge.yes("just until the ends meet", way + "cue " + one + " 3 2 1; go 1; cue " + two + " 3 3 1", "go 1", 3, "told 5 = 0");
            edge.yes("both by turns, the lesser bar first", way + "cue " + one + " 1 2 9; cue " + two + " 1 2 9", "go 1", one == 0 ? 2 : 1,
                    one == 0 ? "told 5 = 0" : stop(0, 2, 4, 0, "1", "3"));
        }
        String free = Edge.strong(2, 8, 5) + "thing SET 3 10 8; thing SET 3 20 8; hang 0 0 3; hang 1 1 4; ";
        edge.yes("in places beside each other", free + "cue 0 5 0 20", "go 20", 100);
        edge.yes("two bars apart", Edge.strong(3, 8, 5) + "thing SET 3 10 8; thing SET 3 20 8; hang 0 0 3; hang 1 2 3; cue 0 5 0 20", "go 20", 100);
        edge.yes("a hook is in nobody's way", Edge.strong(2, 8, 5) + "thing SET 3 10 8; hang 0 0 3; hook 1 3 on; cue 0 5 0 20", "go 20", 100);
    }

    private static void clashOfDepths() {
        String up = "cue 0 5 0 2; go 2; hang 1 1 3; cue 0 -1 2 5";
        String cloths = Edge.strong(2, 8, 6) + "thing CLOTH 3 10 8; thing CLOTH # 20 8; hang 0 0 3; ";
        edge.yes("CLOTHS, just the gap", cloths.replace("#", "3") + up, "go 5", 5);
        edge.yes("CLOTHS, above the gap", cloths.replace("#", "4") + up, "go 5", 0, stop(0, 2, 4, 0, "1", "3"));
        String sets = cloths.replace("thing CLOTH 3 10 8", "thing SET 3 10 8");
        edge.yes("a SET, below the gap", sets.replace("#", "2") + up, "go 5", 5);
        edge.yes("a SET, just the gap", sets.replace("#", "3") + up, "go 5", 0, stop(0, 2, 4, 0, "1", "3"));
    }

    /** Each reason ahead of the later ones. */
    private static void reasonsOrder() {
        String three = "bar 1 8 5; line 1 3 1 9999; bar 0 8 5; line 0 3 1 999; thing SET 3 10 8; hang 0 0 3; ";
        String down = three + "cue 0 -1 0 9; ";
        edge.yes("(1) ahead of (2)", down + "brick 0 5", "go 1", 0, stop(0, 1, 0));
        edge.yes("(1) ahead of (3)", down + "cut 1", "go 1", 0, stop(0, 1, 0));
        edge.yes("(1) ahead of (2) and (3)", down + "brick 0 5; cut 1", "go 1", 0, stop(0, 1, 0));
        String top = Edge.strong(2, 8, 5) + "thing SET 3 1 8; thing SET 3 40 8; hang 0 0 3; cue 0 5 0 20; go 20; hang 1 1 3; cue 1 5 20 20; go 20; ";
        edge.asked("bar 1 goes up to 99 and meets it", top, "barOf 1 2 = 99; barOf 0 2 = 100");
        edge.yes("(1) alone", top + "cue 0 1 40 1", "go 1", 0, stop(40, 1, 0));
        edge.yes("(2) ahead of (4)", top + "brick 1 5; cue 1 1 40 1", "go 1", 0, stop(40, 2, 1));
        edge.yes("(3) ahead of (4)", top + "cut 2; cut 3; cue 1 1 40 1", "go 1", 0, stop(40, 3, 1));
        edge.yes("(2) ahead of (3)", top + "brick 1 5; cut 2; cut 3; cue 1 1 40 1", "go 1", 0, stop(40, 2, 1));
        edge.yes("(4) alone", top + "cue 1 1 40 1", "go 1", 0, stop(0, 40, 4, 1, "0", "3"));
        edge.yes("(1) at the first unit, though (2) is so at all of them", "bar 0 8 5; brick 0 3; cue 0 -5 0 1", "go 1", 0, stop(0, 1, 0));
        String later = Edge.strong(1, 8, 5) + "cue 0 2 0 1; go 1; cue 0 -5 1 1; ";
        edge.yes("(1) at the third unit", later, "go 1", 2, stop(1, 1, 0));
        edge.yes("(2) at the first unit, (1) only at the third", later + "brick 0 1", "go 1", 0, stop(1, 2, 0));
    }

    /** Of a group: a reason is looked at for each bar by rising numbers, then the next reason for each. */
    private static void reasonsByBars() {
        String group = Edge.strong(4, 8, 5) + "thing FLYER 2 9 16; hang 0 1 3; ";
        String cue = "cue 1 1 0 9; ";
        edge.yes("(2) of both, the least bar", group + "brick 1 5; brick 2 5; " + cue, "go 1", 0, stop(0, 2, 1));
        edge.yes("(2) of the second bar", group + "brick 2 5; " + cue, "go 1", 0, stop(0, 2, 2));
        edge.yes("(2) of the second bar ahead of (3) of the first", group + "cut 2; cut 3; brick 2 5; " + cue, "go 1", 0, stop(0, 2, 2));
        edge.yes("(3) of both, the least bar", group + "cut 2; cut 3; cut 4; cut 5; " + cue, "go 1", 0, stop(0, 3, 1));
        edge.yes("(3) of the second bar", group + "cut 4; cut 5; " + cue, "go 1", 0, stop(0, 3, 2));
        edge.yes("the cue of the second bar", group + "cut 2; cut 3; cue 2 1 0 9", "go 1", 0, stop(0, 3, 1));
        edge.yes("bars that are not of the group", group + "brick 0 5; brick 3 5; " + cue, "go 1", 1);
        String meet = group + "thing SET 3 9 8; cue 1 5 0 2; go 2; cue 1 -1 2 1; go 1; hang 1 0 3; cue 1 -1 3 9; ";
        edge.asked("9 above, the ends meet", meet, "barOf 1 2 = 9; barOf 2 2 = 9; told 5 = 0");
        edge.yes("(4) of the first bar", meet, "go 1", 0, stop(0, 3, 4, 1, "0", "3"));
        edge.yes("(3) of the second bar ahead of (4) of the first", meet + "cut 4; cut 5", "go 1", 0, stop(3, 3, 2));
        edge.yes("(2) of the second bar ahead of (4) of the first", meet + "brick 2 5", "go 1", 0, stop(3, 2, 2));
    }

    /** "by rising places, .. the neighbour below in number, then above, that is not of the group". */
    private static void clashPlaces() {
        String way = Edge.strong(3, 8, 5) + Edge.times(6, "thing SET 3 9 8") + "hang 0 1 2; hang 1 1 5; cue 1 3 0 3; go 3; ";
        String down = "; cue 1 -1 3 9";
        edge.asked("9 above", way, "barOf 1 2 = 9");
        edge.yes("the lesser place, below", way + "hang 2 0 2; hang 3 0 5" + down, "go 1", 0, stop(0, 3, 4, 1, "0", "2"));
        edge.yes("the lesser place, above, ahead of the greater one below", way + "hang 2 2 2; hang 3 0 5" + down, "go 1", 0, stop(0, 3, 4, 1, "2", "2"));
        edge.yes("in one place, below ahead of above", way + "hang 2 2 5; hang 3 0 5" + down, "go 1", 0, stop(0, 3, 4, 1, "0", "5"));
        edge.yes("above alone", way + "hang 2 2 5" + down, "go 1", 0, stop(0, 3, 4, 1, "2", "5"));
        edge.yes("neither", way + "hang 2 2 4; hang 3 0 6" + down, "go 1", 1, "told 5 = 0");
        String ends = "bar 0 16 5; bar 1 16 5; line 0 0 1 99; line 0 15 1 99; line 1 0 1 99; line 1 15 1 99; thing SET 3 5 8; thing SET 3 5 8; ";
        edge.yes("the first place", ends + "hang 0 0 0; cue 0 5 0 1; go 1; hang 1 1 0; cue 1 1 1 1", "go 1", 0, stop(0, 1, 4, 1, "0", "0"));
        edge.yes("the last place", ends + "hang 0 0 15; cue 0 5 0 1; go 1; hang 1 1 15; cue 1 1 1 1", "go 1", 0, stop(0, 1, 4, 1, "0", "15"));
        String group = Edge.strong(4, 8, 5) + "thing FLYER 2 9 16; thing SET 3 9 8; thing SET 3 9 8; thing SET 3 9 8; thing SET 3 9 8; "
                + "hang 0 1 6; hang 1 1 4; hang 2 2 2; cue 1 3 0 3; go 3; ";
        edge.yes("the first bar's greater place ahead of the second bar's lesser one", group + "hang 3 0 4; hang 4 3 2; cue 1 -1 3 1", "go 1", 0, stop(0, 3, 4, 1, "0", "4"));
        edge.yes("the second bar, above", group + "hang 4 3 2; cue 1 -1 3 1", "go 1", 0, stop(0, 3, 4, 2, "3", "2"));
        edge.yes("the FLYER itself, above", group + "hang 4 3 6; cue 1 -1 3 1", "go 1", 0, stop(0, 3, 4, 2, "3", "6"));
        String inside = Edge.strong(2, 8, 5) + "thing FLYER 1 9 16; thing SET 2 9 8; thing SET 2 9 8; hang 0 0 6; hang 1 0 3; hang 2 1 3; ";
        edge.yes("a neighbour of the group goes along", inside + "cue 0 1 0 9", "go 9", 9);
    }

    /** "all cues of its bars that run at the TIME are ended". */
    private static void stopEndsCues() {
        String group = Edge.strong(4, 8, 8) + "thing FLYER 1 1 8; hang 0 1 3; ";
        edge.yes("of all its bars", group + "cue 1 -1 0 9; cue 2 1 0 9; cue 2 2 0 1; cue 1 1 0 2", "go 1", 0, Edge.times(4, "cueOf # 4 = 3") + "told 5 = 1");
        edge.yes("not those that are ahead", group + "cue 1 -1 0 9; cue 2 1 1 9", "go 1", 0, "cueOf 0 4 = 3; cueOf 1 4 = 1; go 1 = 1");
        edge.yes("not those that are over", group + "go 5; cue 1 -1 5 9; cue 2 1 0 5; cue 2 1 0 6", "go 1", 0, "cueOf 0 4 = 3; cueOf 1 4 = 2; cueOf 2 4 = 3");
        edge.yes("not those of other groups", group + "cue 1 -1 0 9; cue 0 1 0 9; cue 3 1 0 9", "go 1", 2, "cueOf 0 4 = 3; cueOf 1 4 = 1; cueOf 2 4 = 1");
        edge.yes("it is noted once", group + "cue 1 -1 0 9", "go 9", 0, "told 5 = 1; stop 1 0 = NONE");
        edge.yes("by the least bar of each group", "bar 9 8 8; bar 2 8 8; bar 5 8 8; cue 9 -1 0 1; cue 5 -1 0 1; cue 2 -1 0 1", "go 1", 0,
                "stop 2 2 = 2; stop 1 2 = 5; stop 0 2 = 9");
    }

    private static void stopsKept() {
        edge.promise(32);
        String bar = "bar 0 4 4; ";
        edge.asked("39 stops", bar + Edge.times(39, "cue 0 -1 # 1") + "go 100", "told 5 = 39; stop 38 0 = 0; stop 39 0 = NONE; stop 0 0 = 38");
        edge.asked("40 stops", bar + Edge.times(40, "cue 0 -1 # 1") + "go 100", "told 5 = 40; stop 39 0 = 0; stop 40 0 = NONE; stop 0 0 = 39");
        edge.asked("41 stops", bar + Edge.times(41, "cue 0 -1 # 1") + "go 100", "told 5 = 41; stop 39 0 = 1; stop 40 0 = NONE; stop 0 0 = 40");
        edge.asked("60 stops", bar + Edge.times(60, "cue 0 -1 # 1") + "go 100", "told 5 = 60; stop 39 0 = 20; stop 40 0 = NONE; stop 0 0 = 59; stop 20 0 = 39; stop 19 0 = 40");
        edge.yes("the 41st pushes the first out", bar + Edge.times(41, "cue 0 -1 # 1") + "go 40", "go 1", 0, "stop 39 0 = 1; told 5 = 41; undo = 43; stop 39 0 = 0; told 5 = 40");
    }

    private static void stopNone() {
        String one = "bar 3 8 8; cue 3 -1 0 1; go 1; ";
        edge.noneEach("no stop", "bar 3 8 8; go 1", "stop # 0", MIN, -1, 0, 1, 39, 40, MAX);
        edge.noneEach("only one stop", one, "stop # 0", MIN, -1, 1, 2, 39, 40, MAX);
        edge.noneEach("another what", one, "stop 0 #", MIN, -1, 5, 6, MAX);
        edge.asked("the reason 1 has no neighbour and no place", one, stop(0, 1, 3));
        edge.asked("the reason 2 has none", "bar 3 8 8; brick 3 1; cue 3 1 0 1; go 1", stop(0, 2, 3));
        edge.asked("the reason 3 has none", "bar 3 8 8; line 3 2 1 9; thing SET 3 4 8; hang 0 3 2; cut 0; cue 3 1 0 1; go 1", stop(0, 3, 3));
        String four = Edge.strong(2, 8, 5) + "thing SET 3 4 8; thing SET 3 4 8; hang 0 0 0; cue 0 4 0 1; go 1; hang 1 1 0; cue 1 1 1 1; go 1; ";
        edge.asked("the reason 4 has both", four, stop(0, 1, 4, 1, "0", "0"));
        edge.asked("a later reason 1 has none again", four + "cue 1 -1 2 1; go 1", stop(0, 2, 1, 1, "NONE", "NONE") + stop(1, 1, 4, 1, "0", "0"));
        edge.noneEach("a stop that was undone", one + "undo", "stop 0 #", 0, 1, 2, 3, 4);
    }

    private static void cueOf() {
        edge.promise(33);
        String one = "bar 3 8 8; cue 3 -4 2 3; ";
        edge.noneEach("no cue", "bar 3 8 8", "cueOf # 0", MIN, -1, 0, 59, 60, MAX);
        edge.noneEach("no such cue", one, "cueOf # 0", MIN, -1, 1, 59, 60, MAX);
        edge.noneEach("no such cue of 60", "bar 3 8 8; " + Edge.times(60, "cue 3 1 # 1"), "cueOf # 4", MIN, -1, 60, MAX);
        edge.noneEach("another what", one, "cueOf 0 #", MIN, -1, 5, 6, MAX);
        edge.noneEach("a cue that was undone", one + "undo", "cueOf 0 #", 0, 1, 2, 3, 4);
        edge.asked("all of it", one, "cueOf 0 0 = 3; cueOf 0 1 = -4; cueOf 0 2 = 2; cueOf 0 3 = 3; cueOf 0 4 = 0");
        edge.asked("the last of 60", "bar 3 8 8; " + Edge.times(60, "cue 3 1 # 1"), "cueOf 59 2 = 59");
        String states = "bar 3 8 8; go #; cue 3 1 2 3; ";
        edge.asked("one tick ahead", states.replace("#", "1"), "cueOf 0 4 = 0");
        edge.asked("at its tick", states.replace("#", "2"), "cueOf 0 4 = 1");
        edge.asked("at its last tick", states.replace("#", "4"), "cueOf 0 4 = 1");
        edge.asked("its ticks behind its tick", states.replace("#", "5"), "cueOf 0 4 = 2");
        edge.asked("ended while ahead", states.replace("#", "1") + "hush 3", "cueOf 0 4 = 3");
        edge.asked("ended while it ran", states.replace("#", "4") + "hush 3", "cueOf 0 4 = 3");
        edge.asked("ended, ahead of the others", states.replace("#", "4") + "hush 3; go 50", "cueOf 0 4 = 3");
        edge.asked("over, and then hushed", states.replace("#", "5") + "hush 3", "cueOf 0 4 = 2");
        edge.asked("a cue of a bar that was stripped", "bar 3 8 8; go 5; cue 3 1 0 1; strip 3", "cueOf 0 0 = 3; cueOf 0 4 = 2");
    }

    private static void least() {
        edge.promise(31);
        String way = Edge.strong(4, 8, 8) + "thing FLYER 1 1 32000; thing CLOTH 1 1 20000; hang 0 1 3; hang 1 3 3; brick 0 9; ";
        edge.asked("no cue", way, "least = 0");
        edge.asked("a cue far ahead", way + "cue 0 1 1000000 200", "least = 9");
        edge.asked("a cue that runs", way + "cue 0 1 0 1", "least = 9");
        edge.asked("at its last tick", way + "go 9; cue 0 1 0 10", "least = 9");
        edge.asked("just over", way + "go 10; cue 0 1 0 10", "least = 0");
        edge.asked("ended", way + "cue 0 1 0 9; hush 0", "least = 0");
        edge.asked("several cues of one bar count once", way + "cue 0 1 0 9; cue 0 2 0 9", "least = 9");
        edge.asked("the group's first bar has one", way + "cue 1 1 0 9", "least = 4");
        edge.asked("the group's second bar has one", way + "cue 2 1 0 9", "least = 4");
        edge.asked("both have one", way + "cue 1 1 0 9; cue 2 1 0 9", "least = 4");
        edge.asked("put here, taken there", way + "brick 1 5; cue 2 1 0 9", "least = 5");
        edge.asked("all groups", way + "cue 0 1 0 9; cue 2 1 0 9; cue 3 1 0 9", "least = 15");
        edge.asked("all in balance", way + "cue 3 1 0 9; brick 3 3", "least = 0");
        String last = "bar 10 8 9; bar 11 8 9; line 10 3 1 9; line 11 3 1 9; brick 10 2; brick 11 3; thing FLYER 1 1 8; hang 0 10 3; ";
        edge.asked("the last two bars, a cue of the first", last + "cue 10 1 0 9", "least = 3");
        edge.asked("the last two bars, a cue of the second", last + "cue 11 1 0 9", "least = 3");
        String first = last.replace("10", "0").replace("11", "1");
        edge.asked("the first two bars, a cue of the first", first + "cue 0 1 0 9", "least = 3");
        edge.asked("the first two bars, a cue of the second", first + "cue 1 1 0 9", "least = 3");
        edge.asked("the most", Edge.times(12, "bar # 2 1; brick # 2000; cue # 1 0 1"), "least = 24000");
        edge.asked("the first and the last bar", "bar 0 2 1; bar 11 2 1; brick 0 1; brick 11 2; cue 0 1 5 1; cue 11 1 5 1", "least = 3");
    }
}
