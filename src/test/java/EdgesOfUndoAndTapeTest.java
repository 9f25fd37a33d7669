/** The edges of promises 19 to 23 and 35, of the kept acts and of the TAPE in the terms. */
public final class EdgesOfUndoAndTapeTest {
    private static final int MIN = Integer.MIN_VALUE;
    private static final int MAX = Integer.MAX_VALUE;
    private static final Edge edge = new Edge();
    /** Two bars with strong lines, a CLOTH on the first, a LAMP and a FLYER that are loose. */
    private static final String LOFT = Edge.strong(2, 8, 10) + "thing CLOTH 2 4 8; hang 0 0 5; thing LAMP 2 4 8; thing FLYER 2 4 16; ";

    public static void main(String[] args) {
        keptActs();
        actsThatAreNotKept();
        latestSixty();
        undoAll();
        tell();
        forge();
        clear();
        checkCounts();
        checkHang();
        checkStrikeAndBrick();
        checkCue();
        checkGo();
        checkOther();
        checkGoesOn();
        checkLeavesAll();
        status();
        subjects();
        edge.end();
    }

    /** Each kept act is one more, and undone all is as it was: the judge looks at both. */
    private static void keptActs() {
        edge.terms(4);
        String[][] acts = {{"bar 2 8 8", "8"}, {"line 0 3 2 9", "4"}, {"wear 0 0 9", "29991"}, {"cut 0", "30000"}, {"thing SET 1 1 8", "3"},
            {"heat 1 5", "0"}, {"hang 1 1 2", "1"}, {"strike 0", "5"}, {"hook 0 2 on", "0"}, {"brick 0 3", "3"}, {"shift 0 5 6 1", "1"},
            {"flag 2 9", "0"}, {"cue 0 1 0 9", "0"}, {"hush 0", "0"}, {"go 3", "0"}, {"strip 1", "2"}};
        int kept = 10;
        for (String[] act : acts) {
            edge.yes("kept: " + act[0], LOFT, act[0], Double.parseDouble(act[1]), "told 6 = " + (kept + 1) + "; undo = " + kept + "; told 6 = " + kept);
        }
        edge.yes("a go that moves and stops", LOFT + "cue 0 3 0 2; cue 1 -1 0 9", "go 2", 6, "told 6 = 13; told 5 = 1; undo = 12; told 5 = 0; told 8 = 0; told 9 = 0; cueOf 1 4 = 1");
        edge.yes("a hush that ends", LOFT + "cue 0 3 0 2", "hush 0", 1, "undo = 11; cueOf 0 4 = 1");
        String[] idle = {"brick 0 0", "hook 0 2 off", "flag 2 0", "heat 1 0", "wear 0 0 0", "shift 0 0 0 0", "hush 1"};
        for (String act : idle) {
            edge.yes("kept though it changed nothing: " + act, LOFT, act, act.startsWith("wear") ? 30000 : 0, "told 6 = 11");
        }
    }

    private static void actsThatAreNotKept() {
        String way = LOFT + "flag 1 5; tell 1 0 0 0 0; ";
        edge.yes("wave", way, "wave 1", 5, "told 6 = 11");
        edge.yes("tell", way, "tell 1 0 0 0 0", 2, "told 6 = 11");
        edge.yes("forge", way, "forge 0 1 9", 0, "told 6 = 11");
        edge.yes("clear", way, "clear", 1, "told 6 = 11");
        edge.judged("check", way, 0, Due.THERE, 0);
        edge.yes("undo", way, "undo", 10, "told 6 = 10; wave 1 = NONE");
        edge.no("a refused act", way, "brick 0 -1", Due.NUMBER);
        edge.asked("refused acts are not kept", way + "!brick 0 -1; !hang 0 0 0; !go 0; !bar 0 8 8", "told 6 = 11; status 2 = 4");
        edge.yes("undo goes behind a refused act to the latest kept one", way + "brick 0 2; !brick 0 -3", "undo", 11, "barOf 0 3 = 0");
    }

    private static void latestSixty() {
        String bar = "bar 0 8 8; ";
        edge.asked("59", bar + Edge.times(58, "brick 0 1"), "told 6 = 59");
        edge.yes("the 60th", bar + Edge.times(58, "brick 0 1"), "brick 0 1", 59, "told 6 = 60");
        edge.yes("the 61st", bar + Edge.times(59, "brick 0 1"), "brick 0 1", 60, "told 6 = 60; undo = 59; undo = 58; barOf 0 3 = 58");
        edge.yes("the 70th", bar + Edge.times(68, "brick 0 1"), "brick 0 1", 69, "told 6 = 60");
        edge.yes("60 are there, and one is undone", bar + Edge.times(59, "brick 0 1"), "undo", 59, "barOf 0 3 = 58; told 6 = 59");
        edge.yes("70 were there, and one is undone", bar + Edge.times(69, "brick 0 1"), "undo", 59, "barOf 0 3 = 68");
        edge.yes("an act behind that is the 60th again", bar + Edge.times(69, "brick 0 1") + "undo", "brick 0 9", 77, "told 6 = 60; undo = 59; barOf 0 3 = 68");
        edge.yes("a refused act pushes none out", bar + Edge.times(59, "brick 0 1") + "!brick 0 -60; !go 0", "undo", 59, "barOf 0 3 = 58");
    }

    private static void undoAll() {
        edge.promise(19);
        edge.no("nothing was done", "", "undo", Due.NOTHING);
        edge.no("nothing but what is not kept", "tell 1 0 0 0 0; forge 0 1 1; clear; !wave 0; !brick 0 1", "undo", Due.NOTHING);
        edge.yes("the only one", "bar 0 8 8", "undo", 0, "told 0 = 0; undo = NONE; status 0 = 17");
        edge.no("all was undone", "bar 0 8 8; undo", "undo", Due.NOTHING);
        StringBuilder down = new StringBuilder();
        for (int left = 58; left >= 0; left--) {
            down.append("undo = ").append(left).append("; ");
        }
        edge.yes("60 of 60", "bar 0 8 8; " + Edge.times(59, "brick 0 1"), "undo", 59, down + "told 0 = 0; undo = NONE; status 0 = 17; status 1 = 0");
        edge.yes("60 of 61: the first one stays done", "bar 0 8 8; " + Edge.times(60, "brick 0 1"), "undo", 59, down + "told 0 = 1; barOf 0 3 = 0; undo = NONE; status 0 = 17");
        edge.yes("60 of 64", "bar 0 8 8; " + Edge.times(63, "brick 0 1"), "undo", 59, down + "barOf 0 3 = 3; undo = NONE; brick 0 1 = 4; undo = 0; barOf 0 3 = 3");
        edge.yes("the TAPE stays", "bar 0 8 8; tell 3 0 1 0 1; tell 3 0 1 0 2", "undo", 0, "told 7 = 2; forge 1 4 7 = 2");
        edge.asked("what status() tells stays", "bar 0 8 8; !bar 0 8 8; undo", "status 0 = 0; status 1 = 0; status 2 = 1");
        edge.yes("a number is given again", "bar 0 8 8; line 0 0 1 5; undo", "line 0 1 1 6", 0);
        edge.yes("a bar with all that it had", "bar 3 8 8; brick 3 7; line 3 0 2 9; line 3 2 1 8; wear 0 1 4; strip 3", "undo", 5,
                "barOf 3 0 = 8; barOf 3 1 = 8; barOf 3 3 = 7; barOf 3 5 = 2; strength 0 = 5; strength 1 = 8; told 1 = 2");
        edge.yes("a FLYER hangs again on both", Edge.strong(2, 8, 8) + "thing FLYER 1 1 8; hang 0 0 3; strike 0", "undo", 8, "at 0 3 = 2; at 1 3 = 2; of 0 3 = 0; barOf 1 6 = 0");
    }

    private static void tell() {
        edge.promise(20);
        edge.noEach("act", "", "tell # 1 2 3 4", Due.NUMBER, MIN, -1, 0, 6, MAX);
        for (int act = 1; act <= 5; act++) {
            edge.yes("act " + act, "", "tell " + act + " 1 2 3 4", 1, "told 7 = 1; forge 0 0 1 = " + act + "; forge 0 1 0 = 1; forge 0 2 0 = 2; forge 0 3 0 = 3; forge 0 4 0 = 4");
        }
        edge.yes("numbers at the ends of int", "", "tell 1 MIN MAX MIN MAX", 1, "forge 0 1 0 = -2147483648; forge 0 2 0 = 2147483647; forge 0 3 0 = -2147483648; forge 0 4 0 = 2147483647");
        String forty = Edge.times(40, "tell 3 # # # #");
        edge.yes("the 40th step", Edge.times(39, "tell 3 # # # #"), "tell 5 1 2 3 4", 40, "told 7 = 40; forge 39 0 1 = 5; forge 38 4 0 = 38");
        edge.no("the 41st step", forty, "tell 5 1 2 3 4", Due.MUCH);
        edge.noEach("NUMBER ahead of MUCH", forty, "tell # 1 2 3 4", Due.NUMBER, MIN, 0, 6, MAX);
        edge.yes("a cleared TAPE", forty + "clear", "tell 5 1 2 3 4", 1, "told 7 = 1; forge 1 1 0 = NONE; status 0 = 2");
    }

    private static void forge() {
        edge.promise(21);
        String two = "tell 1 10 20 30 40; tell 2 11 21 31 41; ";
        edge.no("an empty TAPE", "", "forge 0 1 1", Due.BEYOND);
        edge.noEach("no such step", two, "forge # 1 1", Due.BEYOND, MIN, -1, 2, 39, 40, MAX);
        edge.noEach("no such step of 40", Edge.times(40, "tell 3 # # # #"), "forge # 1 1", Due.BEYOND, -1, 40);
        edge.yes("the last step of 40", Edge.times(40, "tell 3 # # # #"), "forge 39 4 7", 39, "forge 39 4 0 = 7; forge 38 4 0 = 38");
        edge.noEach("another what", two, "forge 0 # 1", Due.BEYOND, MIN, -1, 5, 6, MAX);
        edge.noEach("another what of the last step", two, "forge 1 # 1", Due.BEYOND, -1, 5);
        edge.noEach("no such act", two, "forge 0 0 #", Due.NUMBER, MIN, -1, 0, 6, MAX);
        edge.no("BEYOND, no step, ahead of NUMBER", two, "forge 2 0 0", Due.BEYOND);
        edge.no("BEYOND, no step, ahead of NUMBER", two, "forge -1 0 6", Due.BEYOND);
        for (int act = 1; act <= 5; act++) {
            edge.yes("act " + act, two, "forge 0 0 " + act, 1, "forge 0 0 1 = " + act + "; forge 1 0 1 = 2");
        }
        String[] ends = {"MIN", "-1", "0", "6", "MAX"};
        for (int what = 1; what <= 4; what++) {
            for (String end : ends) {
                edge.yes("any number for " + what, two, "forge 1 " + what + " " + end, 10 * what + 1,
                        "forge 1 " + what + " 9 = " + Run.number(end) + "; forge 0 " + what + " 9 = " + 10 * what);
            }
        }
        edge.yes("nothing else becomes another one", two, "forge 0 2 99", 20, "forge 0 0 1 = 1; forge 0 1 0 = 10; forge 0 2 0 = 99; forge 0 3 0 = 30; forge 0 4 0 = 40; forge 1 0 1 = 2; forge 1 1 0 = 11; told 7 = 2");
    }

    private static void clear() {
        edge.promise(22);
        edge.yes("an empty TAPE", "", "clear", 0, "told 7 = 0");
        edge.yes("one step", "tell 1 0 0 0 0", "clear", 1, "told 7 = 0; forge 0 1 0 = NONE; status 0 = 2");
        edge.yes("a full TAPE", Edge.times(40, "tell 3 # # # #"), "clear", 40, "told 7 = 0; forge 0 1 0 = NONE; check = 0; status 0 = 0");
        edge.yes("cleared already", "tell 1 0 0 0 0; clear", "clear", 0);
        edge.yes("all else stays", LOFT + "tell 1 0 0 0 0", "clear", 1, "told 6 = 10");
    }

    private static void checkCounts() {
        edge.promise(23);
        edge.yes("an empty TAPE", LOFT, "check", 0);
        edge.yes("one step", LOFT + "tell 3 0 1 0 1", "check", 1);
        StringBuilder bricks = new StringBuilder("bar 0 8 8; ");
        for (int i = 1; i <= 40; i++) {
            bricks.append("tell 3 0 1 0 ").append(i).append("; ");
        }
        edge.yes("all 40 steps", bricks.toString(), "check", 40, "barOf 0 3 = 0; told 6 = 1");
        edge.judged("the last of 40 has another answer", bricks + "forge 39 4 41", 39, Due.OTHER, 40);
        edge.judged("the last of 40 is refused", bricks + "forge 39 2 1962", 39, Due.NUMBER, 0);
        edge.yes("the last of 40 just not", bricks + "forge 39 2 1961; forge 39 4 2000", "check", 40);
        edge.judged("the first of 40 has another answer", bricks + "forge 0 4 0", 0, Due.OTHER, 1);
        edge.judged("the first of 40 is refused", bricks + "forge 0 1 12", 0, Due.BEYOND, 0);
        edge.judged("steps behind it do not count", bricks + "forge 5 2 -9", 5, Due.NUMBER, 0);
    }

    private static void checkHang() {
        edge.yes("a thing", LOFT + "tell 1 1 0 3 2", "check", 1, "at 0 3 = 0; of 1 3 = NONE; told 3 = 1");
        edge.yes("a FLYER", LOFT + "tell 1 2 0 3 2", "check", 1, "at 0 3 = 0; at 1 3 = 0");
        String[][] wrong = {{"3 0 3", "2"}, {"-1 0 3", "2"}, {"MAX 0 3", "2"}, {"MIN 0 3", "2"}, {"0 0 3", "8"}, {"1 12 3", "2"}, {"1 -1 3", "2"}, {"1 MAX 3", "2"}, {"2 MAX 3", "2"},
            {"2 11 3", "2"}, {"1 2 3", "1"}, {"2 1 3", "1"}, {"1 0 8", "2"}, {"1 0 MIN", "2"}, {"1 0 5", "12"}, {"2 0 5", "12"}};
        for (String[] it : wrong) {
            edge.judged("hang " + it[0], LOFT + "tell 1 " + it[0] + " 1", 0, Integer.parseInt(it[1]), 0);
        }
        edge.judged("HIGH", LOFT + "cue 1 1 0 1; go 1; tell 1 1 1 3 1", 0, Due.HIGH, 0);
        edge.judged("CLASH and its subject", LOFT + "thing SET 9 9 8; tell 1 3 1 5 1", 0, Due.CLASH, 0);
        edge.judged("CLASH and another subject", LOFT + "thing SET 9 9 8; hang 3 1 2; thing SET 9 9 8; tell 1 4 0 2 1", 0, Due.CLASH, 3);
        edge.judged("HOT and its subject", LOFT + "heat 1 1; thing CLOTH 1 1 8; hang 3 1 2; tell 1 1 1 3 2", 0, Due.HOT, 3);
        edge.judged("HEAVY and its subject", LOFT + "cut 2; tell 1 1 1 3 1", 0, Due.HEAVY, 1);
    }

    private static void checkStrikeAndBrick() {
        edge.yes("strike", LOFT + "tell 2 0 0 0 5", "check", 1, "at 0 5 = 2");
        edge.yes("strike, b and c count for nothing", LOFT + "tell 2 0 MAX MIN 5", "check", 1);
        edge.judged("strike, no such thing", LOFT + "tell 2 3 0 0 5", 0, Due.BEYOND, 0);
        edge.judged("strike, no such thing", LOFT + "tell 2 MIN 0 0 5", 0, Due.BEYOND, 0);
        edge.judged("strike, LOOSE", LOFT + "tell 2 1 0 0 5", 0, Due.LOOSE, 0);
        edge.judged("strike, HIGH", LOFT + "cue 0 1 0 1; go 1; tell 2 0 0 0 5", 0, Due.HIGH, 0);
        edge.yes("brick, 2000", LOFT + "tell 3 0 2000 0 2000", "check", 1, "barOf 0 3 = 0");
        edge.yes("brick, c counts for nothing", LOFT + "tell 3 0 1 MIN 1", "check", 1);
        edge.judged("brick, 2001", LOFT + "tell 3 0 2001 0 2001", 0, Due.NUMBER, 0);
        edge.judged("brick, -1", LOFT + "tell 3 0 -1 0 -1", 0, Due.NUMBER, 0);
        edge.judged("brick, MAX more than 1", LOFT + "brick 0 1; tell 3 0 MAX 0 MIN", 0, Due.NUMBER, 0);
        edge.judged("brick, MIN", LOFT + "tell 3 0 MIN 0 MIN", 0, Due.NUMBER, 0);
        edge.judged("brick, no bar", LOFT + "tell 3 12 1 0 1", 0, Due.BEYOND, 0);
        edge.judged("brick, MISSING", LOFT + "tell 3 2 1 0 1", 0, Due.MISSING, 0);
    }

    /** "of 4 the ticks are always 4, and the tick is the TIME then". */
    private static void checkCue() {
        String way = LOFT + "go 7; ";
        edge.yes("from the TIME on", way + "tell 4 0 1 0 0; tell 5 1 0 0 1", "check", 2, "told 4 = 0; told 9 = 7");
        edge.yes("for four ticks", way + "tell 4 0 1 0 0; tell 5 4 0 0 4; tell 5 50 0 0 0", "check", 3);
        edge.judged("not for a fifth", way + "tell 4 0 1 0 0; tell 5 5 0 0 5", 1, Due.OTHER, 4);
        edge.yes("the TIME then, not the TIME now", way + "tell 5 20 0 0 0; tell 4 0 1 0 0; tell 5 1 0 0 1; tell 5 9 0 0 3", "check", 4);
        edge.yes("c counts for nothing", way + "tell 4 0 1 MAX 0; tell 5 9 0 0 4", "check", 2);
        edge.judged("the answer is its number", way + "cue 1 1 0 1; tell 4 0 1 0 0", 0, Due.OTHER, 1);
        for (String step : new String[] {"-6", "0", "6", "MIN", "MAX"}) {
            edge.judged("step " + step, way + "tell 4 0 " + step + " 0 0", 0, Due.NUMBER, 0);
        }
        for (String step : new String[] {"-5", "5"}) {
            edge.yes("step " + step, way + "tell 4 0 " + step + " 0 0", "check", 1);
        }
        edge.judged("no bar", way + "tell 4 12 1 0 0", 0, Due.BEYOND, 0);
        edge.judged("MISSING", way + "tell 4 2 1 0 0", 0, Due.MISSING, 0);
        String most = "bar 0 8 8; " + Edge.times(59, "cue 0 1 # 1");
        edge.judged("the 60th and the 61st", most + "tell 4 0 1 0 59; tell 4 0 1 0 60", 1, Due.MUCH, 0);
        edge.judged("the 61st", most + "cue 0 1 0 1; tell 4 0 1 0 60", 0, Due.MUCH, 0);
    }

    private static void checkGo() {
        String way = LOFT + "cue 0 1 0 200; ";
        edge.yes("1", way + "tell 5 1 0 0 1", "check", 1, "told 9 = 0; barOf 0 2 = 0; told 8 = 0");
        edge.yes("100", way + "tell 5 100 0 0 100", "check", 1, "told 9 = 0; barOf 0 2 = 0; told 5 = 0");
        edge.yes("b and c count for nothing", way + "tell 5 1 MIN MAX 1", "check", 1);
        for (String n : new String[] {"MIN", "-1", "0", "101", "MAX"}) {
            edge.judged("go " + n, way + "tell 5 " + n + " 0 0 0", 0, Due.NUMBER, 0);
        }
        edge.yes("a stop in it is none behind it", way + "tell 5 100 0 0 100; tell 5 5 0 0 0", "check", 2, "told 5 = 0; stop 0 0 = NONE; cueOf 0 4 = 1");
    }

    private static void checkOther() {
        edge.judged("an answer of 0", LOFT + "tell 5 1 0 0 1", 0, Due.OTHER, 0);
        edge.judged("one less than told", LOFT + "tell 3 0 5 0 6", 0, Due.OTHER, 5);
        edge.judged("one more than told", LOFT + "tell 3 0 5 0 4", 0, Due.OTHER, 5);
        edge.judged("told at the ends of int", LOFT + "tell 3 0 5 0 MIN", 0, Due.OTHER, 5);
        edge.judged("told at the ends of int", LOFT + "tell 3 0 5 0 MAX", 0, Due.OTHER, 5);
        edge.judged("NONE was told, and it is refused", LOFT + "tell 3 0 -1 0 NONE", 0, Due.NUMBER, 0);
        edge.judged("NONE was told, and it is done", LOFT + "tell 3 0 1 0 NONE", 0, Due.OTHER, 1);
        edge.judged("0 was told, and it is refused", LOFT + "tell 3 0 -1 0 0", 0, Due.NUMBER, 0);
    }

    private static void checkGoesOn() {
        edge.yes("what one step did is there for the next", LOFT + "tell 2 0 0 0 5; tell 1 0 1 5 1; tell 2 0 0 0 5; tell 1 0 0 5 1", "check", 4, "at 0 5 = 2; at 1 5 = 0");
        edge.judged("hung twice", LOFT + "tell 1 1 0 3 2; tell 1 1 0 4 3", 1, Due.THERE, 0);
        edge.judged("high then", LOFT + "tell 4 0 1 0 0; tell 5 1 0 0 1; tell 2 0 0 0 5", 2, Due.HIGH, 0);
        edge.yes("from all as it is now", LOFT + "strike 0; tell 1 0 0 5 1", "check", 1);
        edge.yes("twice the same", LOFT + "tell 1 1 0 3 2; check", "check", 1);
        edge.asked("a check that goes well behind one that did not", LOFT + "tell 3 0 1 0 2; check; forge 0 4 1; check", "status 0 = 0; status 1 = 0; status 2 = 0");
    }

    private static void checkLeavesAll() {
        String tape = "tell 2 0 0 0 5; tell 1 0 0 3 1; tell 3 0 4 0 4; tell 4 1 5 0 0; tell 5 100 0 0 20; ";
        edge.yes("all stays as it is", LOFT + tape, "check", 5, "told 9 = 0; told 6 = 10; told 3 = 1; told 4 = 0; at 0 5 = 2");
        String full = "bar 0 8 8; " + Edge.times(69, "brick 0 1") + "tell 3 0 1 0 70; tell 3 0 1 0 71; ";
        edge.yes("the 60 kept acts too", full, "check", 2, "told 6 = 60; barOf 0 3 = 69; undo = 59; barOf 0 3 = 68; undo = 58; barOf 0 3 = 67");
        edge.judged("the 60 kept acts too, with a step that can not be done", full + "forge 1 4 0", 1, Due.OTHER, 71);
        String stops = "bar 0 4 4; " + Edge.times(45, "cue 0 -1 # 1") + "go 42; tell 5 3 0 0 0; ";
        edge.yes("the 40 kept stops too", stops, "check", 1, "told 5 = 42; stop 0 0 = 41; stop 39 0 = 2");
    }

    private static void status() {
        edge.promise(35);
        edge.noneEach("another what", "", "status #", MIN, -1, 3, 4, MAX);
        edge.noneEach("another what behind a refused act", "!bar 12 8 8", "status #", MIN, -1, 3, MAX);
        edge.asked("no act yet", "", "status 0 = 0; status 1 = 0; status 2 = 0");
        edge.asked("a refused act", "!bar 12 8 8", "status 0 = 2; status 1 = 0; status 2 = 1");
        edge.asked("a done act behind it", "!bar 12 8 8; bar 0 8 8", "status 0 = 0; status 1 = 0; status 2 = 1");
        String[] acts = {"flag 1 5", "tell 1 0 0 0 0", "clear", "check", "undo", "go 1"};
        for (String act : acts) {
            edge.asked("done: " + act, "bar 0 8 8; hook 0 3 on; !strip 0; " + act, "status 0 = 0; status 1 = 0; status 2 = 1");
        }
        edge.asked("a wave that is done", "flag 1 5; !wave 2; wave 1", "status 0 = 0; status 1 = 0; status 2 = 1");
        edge.asked("a forge that is done", "tell 1 0 0 0 0; !forge 1 1 1; forge 0 1 1", "status 0 = 0; status 1 = 0; status 2 = 1");
        edge.asked("every act that is refused counts", "!bar 12 8 8; !strip 0; !line 0 0 1 1; !wear 0 0 0; !cut 0; !thing 9 1 1 1; !heat 0 0; !hang 0 0 0; "
                + "!strike 0; !hook 0 0 on; !brick 0 0; !shift 0 0 0 0; !flag 8 0; !wave 0; !cue 0 1 0 1; !hush 0; !go 0; !undo; !tell 0 0 0 0 0; "
                + "!forge 0 0 0", "status 2 = 20; status 0 = 2");
        edge.asked("neither clear nor check is ever refused", "tell 1 0 0 0 0; check; clear; check; clear", "status 2 = 0");
        edge.asked("questions that answer NONE are not refused", "!bar 12 8 8", "at 0 0 = NONE; of 0 0 = NONE; barOf 0 0 = NONE; told 99 = NONE; status 2 = 1; status 0 = 2");
    }

    /** "A SUBJECT is told with some ..; 0 with others." */
    private static void subjects() {
        edge.terms(4);
        String way = "bar 3 8 8; hook 3 5 on; !strip 3; ";
        edge.asked("BURDENED", way, "status 0 = 16; status 1 = 5");
        String[][] others = {{"!strip 4", "1"}, {"!strip 12", "2"}, {"!bar 4 -1 1", "3"}, {"thing SET 1 1 8; !strip 3; !heat 0 0", "4"}, {"!shift 3 9 9 9", "5"}, {"!wave 0", "6"},
            {"!go 0", "7"}, {"!bar 3 8 8", "8"}, {"thing SET 1 1 8; !strip 3; !strike 0", "9"}, {"cue 3 1 0 1; go 1; !strip 3", "10"}, {"!shift 3 5 6 1", "12"},
            {"undo; undo; !undo", "17"}, {"cue 3 1 0 1; !strip 3", "18"}};
        for (String[] it : others) {
            edge.asked("0 with finding " + it[1], way + it[0], "status 0 = " + it[1] + "; status 1 = 0");
        }
        edge.asked("0 with finding 11", way + Edge.times(80, "thing SET 1 1 8") + "!strip 3; !thing SET 1 1 8", "status 0 = 11; status 1 = 0");
        edge.asked("OTHER and its answer", way + "tell 3 3 7 0 0; check", "status 0 = 19; status 1 = 7; status 2 = 1");
    }
}
