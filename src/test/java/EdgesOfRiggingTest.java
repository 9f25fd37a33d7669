/** The edges of promises 1 to 6, 11, 12, 14 and 15, and of the bounds of bars, lines, bricks and flags. */
public final class EdgesOfRiggingTest {
    private static final int MIN = Integer.MIN_VALUE;
    private static final int MAX = Integer.MAX_VALUE;
    private static final Edge edge = new Edge();
    private static final String FORTY_LINES = "bar 0 16 9; bar 1 16 9; bar 2 16 9; " + Edge.times(16, "line 0 # 1 100")
            + Edge.times(16, "line 1 # 1 100") + Edge.times(8, "line 2 # 8 100");

    public static void main(String[] args) {
        newObject();
        bar();
        barOrder();
        strip();
        stripCues();
        stripOrder();
        line();
        lineMuch();
        lineOrder();
        wear();
        cut();
        hook();
        brick();
        flag();
        wave();
        edge.end();
    }

    private static void newObject() {
        edge.promise(1);
        edge.asked("nothing is rigged, told or done", "", Edge.times(10, "told # = 0") + Edge.times(3, "status # = 0")
                + "least = 0; ");
        edge.asked("no bar", "", Edge.times(12, "barOf # 0 = NONE; at # 0 = NONE; load # = 0.0; even # = NONE"));
        edge.asked("no line, thing, cue, stop", "", "share 0 = NONE; strength 0 = NONE; of 0 0 = NONE; cueOf 0 0 = NONE; "
                + "stop 0 0 = NONE");
        edge.yes("the TAPE is empty", "", "clear", 0);
        edge.yes("no step", "", "check", 0);
        edge.no("nothing is kept", "", "undo", Due.NOTHING);
        edge.noEach("no flag has a sign", "", "wave #", Due.SILENT, 0, 1, 2, 3, 4, 5, 6, 7);
        edge.noEach("no bar is rigged", "", "strip #", Due.MISSING, 0, 1, 2, 3, 4, 5, 6, 7, 8, 9, 10, 11);
    }

    private static void bar() {
        edge.promise(2);
        edge.noEach("no such bar", "", "bar # 8 8", Due.BEYOND, MIN, -1, 12, MAX);
        edge.yes("the first bar", "", "bar 0 8 8", 8, "told 0 = 1; barOf 0 0 = 8; barOf 1 0 = NONE");
        edge.yes("the last bar", "", "bar 11 8 8", 8, "told 0 = 1; barOf 11 0 = 8; barOf 10 0 = NONE");
        edge.yes("the fewest places", "", "bar 4 2 8", 2, "at 4 0 = 0; at 4 1 = 0; at 4 2 = NONE; barOf 4 0 = 2");
        edge.yes("the most places", "", "bar 4 16 8", 16, "at 4 15 = 0; at 4 16 = NONE; barOf 4 0 = 16");
        edge.yes("the least gap", "", "bar 4 8 1", 8, "barOf 4 1 = 1");
        edge.yes("the greatest gap", "", "bar 4 8 30", 8, "barOf 4 1 = 30");
        edge.yes("height and bricks are 0 as it is rigged", "", "bar 4 8 9", 8,
                "barOf 4 2 = 0; barOf 4 3 = 0; barOf 4 4 = 0; barOf 4 5 = 0; barOf 4 6 = 4; barOf 4 7 = 1; barOf 4 8 = 1");
        edge.yes("the twelfth of twelve", Edge.times(11, "bar # 2 1"), "bar 11 2 1", 2, "told 0 = 12");
        edge.no("rigged already", "bar 4 8 8", "bar 4 8 8", Due.THERE);
        edge.yes("stripped, and so not there any more", "bar 4 8 8; strip 4", "bar 4 3 2", 3, "barOf 4 0 = 3; barOf 4 1 = 2");
        edge.yes("undone, and so not there any more", "bar 4 8 8; undo", "bar 4 3 2", 3, "barOf 4 0 = 3; barOf 4 1 = 2");
        edge.noEach("places below 0", "", "bar 4 # 8", Due.SIZE, MIN, -1);
        edge.noEach("too few places", "", "bar 4 # 8", Due.NUMBER, 0, 1);
        edge.noEach("too many places", "", "bar 4 # 8", Due.NUMBER, 17, MAX);
        edge.noEach("the gap is too small", "", "bar 4 8 #", Due.NUMBER, MIN, -1, 0);
        edge.noEach("the gap is too large", "", "bar 4 8 #", Due.NUMBER, 31, MAX);
    }

    private static void barOrder() {
        edge.no("BEYOND ahead of SIZE", "", "bar 12 -1 8", Due.BEYOND);
        edge.no("BEYOND ahead of NUMBER, places", "", "bar -1 1 8", Due.BEYOND);
        edge.no("BEYOND ahead of NUMBER, gap", "", "bar 12 8 31", Due.BEYOND);
        edge.no("THERE ahead of SIZE", "bar 4 8 8", "bar 4 -1 8", Due.THERE);
        edge.no("THERE ahead of NUMBER, places", "bar 4 8 8", "bar 4 17 8", Due.THERE);
        edge.no("THERE ahead of NUMBER, gap", "bar 4 8 8", "bar 4 8 0", Due.THERE);
        edge.no("SIZE ahead of NUMBER", "", "bar 4 -1 0", Due.SIZE);
    }

    private static void strip() {
        edge.promise(3);
        edge.noEach("no such bar", "bar 0 8 8; bar 11 8 8", "strip #", Due.BEYOND, MIN, -1, 12, MAX);
        edge.no("never rigged", "bar 0 8 8; bar 11 8 8", "strip 1", Due.MISSING);
        edge.no("stripped already", "bar 3 8 8; strip 3", "strip 3", Due.MISSING);
        edge.yes("the first bar, no line", "bar 0 8 8", "strip 0", 0, "told 0 = 0; barOf 0 0 = NONE; at 0 0 = NONE");
        edge.yes("the last bar, one line", "bar 11 8 8; line 11 7 1 5", "strip 11", 1, "told 1 = 0; strength 0 = NONE");
        edge.yes("a line at every place", "bar 3 16 8; " + Edge.times(16, "line 3 # 1 5"), "strip 3", 16, "told 1 = 0");
        edge.yes("a line that was cut does not count", "bar 3 8 8; line 3 0 1 5; line 3 1 1 5; cut 0", "strip 3", 1);
        edge.yes("another bar's lines stay", "bar 3 8 8; bar 4 8 8; line 3 0 1 5; line 4 1 1 6", "strip 3", 1,
                "told 1 = 1; strength 0 = NONE; strength 1 = 6; share 1 = 0; barOf 4 5 = 1");
        edge.yes("its bricks go", "bar 3 8 8; brick 3 2000", "strip 3", 0, "bar 3 8 8 = 8; barOf 3 3 = 0; barOf 3 5 = 0");
        edge.yes("its lines do not come back with it", "bar 3 8 8; line 3 0 1 5", "strip 3", 1,
                "bar 3 8 8 = 8; barOf 3 5 = 0; told 1 = 0; line 3 0 1 7 = 1");
        edge.no("at height 1", "bar 3 8 8; cue 3 1 0 1; go 1", "strip 3", Due.HIGH);
        edge.no("at height 100", "bar 3 8 8; cue 3 5 0 20; go 20", "strip 3", Due.HIGH);
        edge.yes("at height 0 again", "bar 3 8 8; cue 3 1 0 1; cue 3 -1 1 1; go 2", "strip 3", 0);
        edge.no("a hook in the first place", "bar 3 8 8; hook 3 0 on", "strip 3", Due.BURDENED, 0);
        edge.no("a hook in the last place", "bar 3 16 8; hook 3 15 on", "strip 3", Due.BURDENED, 15);
        edge.no("the least place of two", "bar 3 8 8; hook 3 6 on; hook 3 2 on", "strip 3", Due.BURDENED, 2);
        edge.no("a thing", "bar 3 8 8; line 3 5 1 9; thing CLOTH 1 1 8; hang 0 3 5", "strip 3", Due.BURDENED, 5);
        edge.no("a thing ahead of a hook", "bar 3 8 8; line 3 5 1 9; thing CLOTH 1 1 8; hang 0 3 5; hook 3 6 on", "strip 3",
                Due.BURDENED, 5);
        edge.no("a FLYER's second bar", Edge.strong(2, 8, 8) + "thing FLYER 1 1 8; hang 0 0 4", "strip 1", Due.BURDENED, 4);
        edge.yes("the hook was taken off", "bar 3 8 8; hook 3 0 on; hook 3 0 off", "strip 3", 0);
    }

    /** A cue counts while it is not ended and the TIME is less than its ticks behind its tick. */
    private static void stripCues() {
        edge.no("a cue far ahead", "bar 3 8 8; cue 3 1 1000000 200", "strip 3", Due.RUNNING);
        edge.no("a cue at its first tick", "bar 3 8 8; cue 3 1 0 1", "strip 3", Due.RUNNING);
        edge.no("a cue one tick ahead", "bar 3 8 8; go 4; cue 3 1 5 1", "strip 3", Due.RUNNING);
        edge.no("a cue at its last tick", "bar 3 8 8; go 9; cue 3 1 0 10", "strip 3", Due.RUNNING);
        edge.yes("a cue that is just over", "bar 3 8 8; go 10; cue 3 1 0 10", "strip 3", 0);
        edge.no("200 ticks, the last", "bar 3 8 8; go 100; go 99; cue 3 1 0 200", "strip 3", Due.RUNNING);
        edge.yes("200 ticks, just over", "bar 3 8 8; go 100; go 100; cue 3 1 0 200", "strip 3", 0);
        edge.yes("hushed", "bar 3 8 8; cue 3 1 0 9; hush 3", "strip 3", 0);
        edge.yes("ended by a stop", "bar 3 8 8; cue 3 -1 0 9; go 1", "strip 3", 0);
        edge.yes("a neighbour's cue", "bar 3 8 8; bar 4 8 8; cue 4 1 0 9", "strip 3", 0);
        edge.no("one of two is not over", "bar 3 8 8; go 5; cue 3 1 0 5; cue 3 1 0 6", "strip 3", Due.RUNNING);
    }

    private static void stripOrder() {
        String hook = "bar 3 8 8; hook 3 2 on; ";
        edge.no("HIGH ahead of RUNNING", "bar 3 8 8; cue 3 1 0 2; go 1", "strip 3", Due.HIGH);
        edge.no("HIGH ahead of BURDENED", hook + "cue 3 1 0 1; go 1", "strip 3", Due.HIGH);
        edge.no("RUNNING ahead of BURDENED", hook + "cue 3 1 0 1", "strip 3", Due.RUNNING);
        edge.no("MISSING though a line of it was told", "bar 3 8 8; line 3 0 1 1; strip 3", "strip 3", Due.MISSING);
    }

    private static void line() {
        edge.promise(4);
        String bar = "bar 3 8 8; ";
        edge.noEach("no such bar", bar + "bar 0 8 8; bar 11 8 8", "line # 0 1 1", Due.BEYOND, MIN, -1, 12, MAX);
        edge.no("a bar that is not rigged", bar, "line 4 0 1 1", Due.MISSING);
        edge.no("a bar that was stripped", bar + "strip 3", "line 3 0 1 1", Due.MISSING);
        edge.noEach("no such place", bar, "line 3 # 1 1", Due.BEYOND, MIN, -1, 8, 15, MAX);
        edge.noEach("no such place of the fewest", "bar 3 2 8", "line 3 # 1 1", Due.BEYOND, -1, 2);
        edge.noEach("no such place of the most", "bar 3 16 8", "line 3 # 1 1", Due.BEYOND, -1, 16);
        edge.yes("the first place", bar, "line 3 0 1 1", 0, "barOf 3 5 = 1; told 1 = 1; strength 0 = 1; share 0 = 0");
        edge.yes("the last place", "bar 3 16 8", "line 3 15 1 1", 0, "barOf 3 5 = 1");
        edge.no("a line holds it there", bar + "line 3 5 1 1", "line 3 5 1 1", Due.THERE);
        edge.yes("the next place", bar + "line 3 5 1 1", "line 3 6 1 1", 1, "barOf 3 5 = 2; told 1 = 2");
        edge.yes("another bar's line", bar + "bar 4 8 8; line 4 5 1 1", "line 3 5 1 1", 1);
        edge.yes("a line that was cut", bar + "line 3 5 1 1; cut 0", "line 3 5 1 9", 1, "strength 0 = NONE; strength 1 = 9");
        edge.yes("a line that went with its bar", bar + "line 3 5 1 1; strip 3; bar 3 8 8", "line 3 5 1 9", 1,
                "strength 0 = NONE; strength 1 = 9; barOf 3 5 = 1");
        edge.noEach("parts below 0", bar, "line 3 0 # 1", Due.SIZE, MIN, -1);
        edge.noEach("too few or too many parts", bar, "line 3 0 # 1", Due.NUMBER, 0, 9, MAX);
        edge.yes("one part", bar, "line 3 0 1 77", 0, "wear 0 0 0 = 77; wear 0 1 0 = NONE; status 0 = 2");
        edge.yes("eight parts", bar, "line 3 0 8 77", 0, Edge.times(8, "wear 0 # 0 = 77") + "wear 0 8 0 = NONE; status 0 = 2");
        edge.noEach("strength", bar, "line 3 0 1 #", Due.NUMBER, MIN, -1, 30001, MAX);
        edge.yes("the least strength", bar, "line 3 0 1 0", 0, "strength 0 = 0");
        edge.yes("the greatest strength", bar, "line 3 0 1 30000", 0, "strength 0 = 30000");
        edge.yes("a high bar gets a line too", bar + "cue 3 1 0 1; go 1", "line 3 0 1 1", 0);
        edge.yes("a place with a hook gets a line too", bar + "hook 3 0 on", "line 3 0 1 1", 0, "at 3 0 = 1");
    }

    private static void lineMuch() {
        String bars = "bar 0 16 9; bar 1 16 9; bar 2 16 9; ";
        String most = bars + Edge.times(16, "line 0 # 1 100") + Edge.times(16, "line 1 # 1 100")
                + Edge.times(7, "line 2 # 1 100");
        edge.yes("the 40th line", most, "line 2 7 1 100", 39, "told 1 = 40; strength 39 = 100; share 39 = 0; barOf 2 5 = 8");
        edge.no("the 41st line", FORTY_LINES, "line 2 8 1 100", Due.MUCH);
        String cut = "bar 0 16 9; " + Edge.times(40, "line 0 3 1 100; cut #");
        edge.no("the 41st line, though all were cut", cut, "line 0 3 1 100", Due.MUCH);
        edge.no("the 41st line, though some were stripped", FORTY_LINES + "strip 0", "line 2 8 1 100", Due.MUCH);
        edge.yes("the 40th was undone", FORTY_LINES + "undo", "line 2 8 1 5", 39, "strength 39 = 5; told 1 = 40");
    }

    private static void lineOrder() {
        String bar = "bar 3 8 8; line 3 5 1 1; ";
        edge.no("BEYOND, no bar, ahead of SIZE", bar, "line 12 0 -1 1", Due.BEYOND);
        edge.no("BEYOND, no bar, ahead of MUCH", FORTY_LINES, "line 12 0 1 1", Due.BEYOND);
        edge.no("MISSING ahead of BEYOND, no place", bar, "line 4 -1 1 1", Due.MISSING);
        edge.no("MISSING ahead of MUCH", FORTY_LINES, "line 4 0 1 1", Due.MISSING);
        edge.no("MISSING ahead of SIZE", bar, "line 4 0 -1 1", Due.MISSING);
        edge.no("BEYOND, no place, ahead of MUCH", FORTY_LINES, "line 2 16 1 1", Due.BEYOND);
        edge.no("BEYOND, no place, ahead of SIZE", bar, "line 3 8 -1 1", Due.BEYOND);
        edge.no("BEYOND, no place, ahead of NUMBER", bar, "line 3 8 0 -1", Due.BEYOND);
        edge.no("THERE ahead of MUCH", FORTY_LINES, "line 2 7 1 1", Due.THERE);
        edge.no("THERE ahead of SIZE", bar, "line 3 5 -1 1", Due.THERE);
        edge.no("THERE ahead of NUMBER", bar, "line 3 5 9 1", Due.THERE);
        edge.no("MUCH ahead of SIZE", FORTY_LINES, "line 2 8 -1 1", Due.MUCH);
        edge.no("MUCH ahead of NUMBER", FORTY_LINES, "line 2 8 1 30001", Due.MUCH);
        edge.no("SIZE ahead of NUMBER", bar, "line 3 0 -1 -1", Due.SIZE);
    }

    private static void wear() {
        edge.promise(5);
        String line = "bar 3 8 8; line 3 5 3 100; ";
        edge.no("no line was told", "bar 3 8 8", "wear 0 0 0", Due.BEYOND);
        edge.noEach("no such line", line, "wear # 0 1", Due.BEYOND, MIN, -1, 1, 39, 40, MAX);
        edge.noEach("no such line of 40", FORTY_LINES, "wear # 0 1", Due.BEYOND, -1, 40);
        edge.yes("the first line of 40", FORTY_LINES, "wear 0 0 1", 99, "strength 0 = 99; strength 1 = 100");
        edge.yes("the last line of 40, its last part", FORTY_LINES, "wear 39 7 1", 99, "strength 39 = 99; strength 38 = 100");
        edge.no("a line that was undone", line + "undo", "wear 0 0 1", Due.BEYOND);
        edge.no("a line that was cut", line + "cut 0", "wear 0 0 1", Due.MISSING);
        edge.no("a line that went with its bar", line + "strip 3", "wear 0 0 1", Due.MISSING);
        edge.noEach("no such part", line, "wear 0 # 1", Due.BEYOND, MIN, -1, 3, 8, MAX);
        edge.yes("the first part", line, "wear 0 0 1", 99, "wear 0 0 0 = 99; wear 0 1 0 = 100; wear 0 2 0 = 100");
        edge.yes("the last part", line, "wear 0 2 1", 99, "wear 0 0 0 = 100; wear 0 1 0 = 100; wear 0 2 0 = 99");
        edge.noEach("by how much", line, "wear 0 0 #", Due.NUMBER, MIN, -1, 30001, MAX);
        edge.yes("by 0", line, "wear 0 0 0", 100, "strength 0 = 100");
        edge.yes("by 30000", line, "wear 0 0 30000", 0, "strength 0 = 0");
        edge.yes("all but 1", line, "wear 0 1 99", 1, "strength 0 = 1");
        edge.yes("just all", line, "wear 0 1 100", 0, "strength 0 = 0");
        edge.yes("one more than all: 0 at least", line, "wear 0 1 101", 0, "strength 0 = 0");
        edge.yes("nothing was left", line + "wear 0 1 100", "wear 0 1 1", 0);
        edge.yes("30000 from 30000", "bar 3 8 8; line 3 0 1 30000", "wear 0 0 30000", 0);
        edge.no("BEYOND, no line, ahead of NUMBER", line, "wear 1 0 -1", Due.BEYOND);
        edge.no("MISSING ahead of BEYOND, no part", line + "cut 0", "wear 0 3 1", Due.MISSING);
        edge.no("MISSING ahead of NUMBER", line + "cut 0", "wear 0 0 -1", Due.MISSING);
        edge.no("BEYOND, no part, ahead of NUMBER", line, "wear 0 3 30001", Due.BEYOND);
    }

    private static void cut() {
        edge.promise(6);
        String line = "bar 3 8 8; line 3 5 3 100; ";
        edge.no("no line was told", "bar 3 8 8", "cut 0", Due.BEYOND);
        edge.noEach("no such line", line, "cut #", Due.BEYOND, MIN, -1, 1, 39, 40, MAX);
        edge.noEach("no such line of 40", FORTY_LINES, "cut #", Due.BEYOND, -1, 40);
        edge.yes("the last line of 40", FORTY_LINES, "cut 39", 100, "told 1 = 39; strength 39 = NONE; barOf 2 5 = 7");
        edge.no("cut already", line + "cut 0", "cut 0", Due.MISSING);
        edge.no("gone with its bar", line + "strip 3", "cut 0", Due.MISSING);
        edge.no("gone with its bar, which is rigged anew", line + "strip 3; bar 3 8 8", "cut 0", Due.MISSING);
        edge.yes("the strength that it had: the weakest part's", line + "wear 0 1 40; wear 0 2 30", "cut 0", 60,
                "told 1 = 0; barOf 3 5 = 0; share 0 = NONE; strength 0 = NONE");
        edge.yes("a strength of 0", "bar 3 8 8; line 3 5 3 0", "cut 0", 0);
        edge.yes("a strength of 30000", "bar 3 8 8; line 3 5 3 30000", "cut 0", 30000);
        edge.yes("a line that bears something", line + "thing CLOTH 1 1 8; hang 0 3 5", "cut 0", 100, "barOf 3 7 = 0; at 3 5 = 2");
        edge.yes("lines stay numbered", line + "line 3 6 1 7; cut 0", "cut 1", 7, "line 3 6 1 9 = 2");
    }

    private static void hook() {
        edge.promise(11);
        String bar = "bar 3 8 8; ";
        edge.noEach("no such bar", bar + "bar 0 8 8; bar 11 8 8", "hook # 0 on", Due.BEYOND, MIN, -1, 12, MAX);
        edge.no("not rigged", bar, "hook 4 0 on", Due.MISSING);
        edge.noEach("no such place", bar, "hook 3 # on", Due.BEYOND, MIN, -1, 8, 15, MAX);
        edge.noEach("no such place, to be taken off", bar, "hook 3 # off", Due.BEYOND, -1, 8);
        edge.yes("the first place", bar, "hook 3 0 on", 0, "at 3 0 = 1; at 3 1 = 0");
        edge.yes("the last place", "bar 3 16 8", "hook 3 15 on", 0, "at 3 15 = 1");
        edge.yes("a hook again", bar + "hook 3 0 on", "hook 3 0 on", 1, "at 3 0 = 1");
        edge.yes("none any more", bar + "hook 3 0 on", "hook 3 0 off", 1, "at 3 0 = 0");
        edge.yes("none as before", bar, "hook 3 0 off", 0, "at 3 0 = 0");
        edge.yes("a hook is no thing", bar, "hook 3 0 on", 0, "barOf 3 4 = 0; barOf 3 7 = 1; told 3 = 0; load 3 = 0.0");
        String thing = bar + "line 3 5 1 9; thing CLOTH 1 1 8; hang 0 3 5";
        edge.no("a thing hangs there", thing, "hook 3 5 on", Due.TAKEN);
        edge.no("a thing hangs there, none is wanted", thing, "hook 3 5 off", Due.TAKEN);
        edge.yes("beside a thing", thing, "hook 3 4 on", 0);
        edge.no("a FLYER's second bar", Edge.strong(2, 8, 8) + "thing FLYER 1 1 8; hang 0 0 4", "hook 1 4 on", Due.TAKEN);
        edge.no("BEYOND, no bar, ahead of MISSING", "", "hook 12 0 on", Due.BEYOND);
        edge.no("MISSING ahead of BEYOND, no place", bar, "hook 4 -1 on", Due.MISSING);
        edge.yes("a high bar", bar + "cue 3 1 0 1; go 1", "hook 3 0 on", 0, "at 3 0 = 1");
    }

    private static void brick() {
        edge.promise(12);
        String bar = "bar 3 8 8; ";
        edge.noEach("no such bar", bar + "bar 0 8 8; bar 11 8 8", "brick # 1", Due.BEYOND, MIN, -1, 12, MAX);
        edge.no("not rigged", bar, "brick 4 1", Due.MISSING);
        edge.no("BEYOND ahead of NUMBER", bar, "brick 12 -1", Due.BEYOND);
        edge.no("MISSING ahead of NUMBER", bar, "brick 4 2001", Due.MISSING);
        edge.noEach("of none", bar, "brick 3 #", Due.NUMBER, MIN, MIN + 1, -1, 2001, MAX - 1, MAX);
        edge.noEach("of one", bar + "brick 3 1", "brick 3 #", Due.NUMBER, MIN, MIN + 1, -2, 2000, MAX - 1, MAX);
        edge.noEach("of 1999", bar + "brick 3 1999", "brick 3 #", Due.NUMBER, MIN, -2000, 2, MAX);
        edge.noEach("of 2000", bar + "brick 3 2000", "brick 3 #", Due.NUMBER, MIN, MIN + 2000, -2001, 1, MAX - 2000, MAX);
        edge.yes("none more", bar, "brick 3 0", 0, "barOf 3 3 = 0");
        edge.yes("2000 at once", bar, "brick 3 2000", 2000, "barOf 3 3 = 2000");
        edge.yes("the 2000th", bar + "brick 3 1999", "brick 3 1", 2000, "barOf 3 3 = 2000");
        edge.yes("none more than 2000", bar + "brick 3 2000", "brick 3 0", 2000);
        edge.yes("the last one is taken", bar + "brick 3 1", "brick 3 -1", 0, "barOf 3 3 = 0");
        edge.yes("all 2000 are taken", bar + "brick 3 2000", "brick 3 -2000", 0, "barOf 3 3 = 0");
        edge.yes("another bar's bricks", bar + "bar 4 8 8; brick 4 2000", "brick 3 2000", 2000, "barOf 4 3 = 2000");
        edge.yes("a high bar", bar + "cue 3 1 0 1; go 1", "brick 3 1", 1);
    }

    private static void flag() {
        edge.promise(14);
        edge.noEach("no such flag", "", "flag # 1", Due.BEYOND, MIN, -1, 8, MAX);
        edge.noEach("no such sign", "flag 0 5", "flag 0 #", Due.NUMBER, MIN, -1, 100, MAX);
        edge.no("BEYOND ahead of NUMBER", "", "flag 8 100", Due.BEYOND);
        edge.no("BEYOND ahead of NUMBER", "", "flag -1 -1", Due.BEYOND);
        edge.yes("the first flag, the least sign", "", "flag 0 1", 0, "wave 0 = 1; wave 1 = NONE");
        edge.yes("the last flag, the greatest sign", "", "flag 7 99", 0, "wave 7 = 99; wave 6 = NONE");
        edge.yes("none any more", "flag 7 99", "flag 7 0", 99, "wave 7 = NONE; status 0 = 6");
        edge.yes("none as before", "", "flag 3 0", 0, "wave 3 = NONE");
        edge.yes("another sign", "flag 3 4; flag 4 9", "flag 3 5", 4, "wave 3 = 5; wave 4 = 9");
    }

    private static void wave() {
        edge.promise(15);
        edge.noEach("no such flag", "flag 0 1; flag 7 1", "wave #", Due.BEYOND, MIN, -1, 8, MAX);
        edge.noEach("no sign", "flag 1 5; flag 6 5", "wave #", Due.SILENT, 0, 2, 3, 4, 5, 7);
        edge.no("none any more", "flag 1 5; flag 1 0", "wave 1", Due.SILENT);
        edge.no("undone", "flag 1 5; undo", "wave 1", Due.SILENT);
        edge.yes("the first flag", "flag 0 1", "wave 0", 1, "wave 0 = 1; told 6 = 1");
        edge.yes("the last flag", "flag 7 99", "wave 7", 99, "wave 7 = 99; told 6 = 1");
    }
}
