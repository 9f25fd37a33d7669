/** The edges of promises 24 to 30 and 34: every NONE of a question, and the ends of what it tells. */
public final class EdgesOfQuestionsTest {
    private static final int MIN = Integer.MIN_VALUE;
    private static final int MAX = Integer.MAX_VALUE;
    private static final Edge edge = new Edge();

    public static void main(String[] args) {
        at();
        of();
        barOf();
        load();
        shareNone();
        shares();
        strength();
        even();
        told();
        edge.end();
    }

    private static void at() {
        edge.promise(24);
        String way = "bar 0 2 9; bar 11 16 9; line 11 15 1 9; thing CLOTH 1 1 8; ";
        edge.noneEach("no such bar", way, "at # 0", MIN, -1, 12, MAX);
        edge.noneEach("a bar that is not rigged", way, "at # 0", 1, 2, 3, 4, 5, 6, 7, 8, 9, 10);
        edge.noneEach("a bar that was stripped", way + "strip 0", "at 0 #", 0, 1);
        edge.noneEach("no such place of 2", way, "at 0 #", MIN, -1, 2, 15, 16, MAX);
        edge.noneEach("no such place of 16", way, "at 11 #", MIN, -1, 16, 17, MAX);
        edge.asked("nothing, to the last place", way, "at 0 0 = 0; at 0 1 = 0; at 11 0 = 0; at 11 15 = 0");
        edge.asked("a hook", way + "hook 0 1 on; hook 11 15 on", "at 0 1 = 1; at 11 15 = 1");
        edge.asked("thing 0", way + "hang 0 11 15", "at 11 15 = 2");
        edge.asked("thing 79", "bar 11 16 9; line 11 15 1 9; " + Edge.times(80, "thing CLOTH 1 1 8") + "hang 79 11 15", "at 11 15 = 81");
        edge.asked("a FLYER on both", Edge.strong(2, 8, 9) + "thing CLOTH 1 1 8; thing FLYER 1 1 8; hang 1 0 3", "at 0 3 = 3; at 1 3 = 3; at 0 4 = 0");
    }

    private static void of() {
        edge.promise(25);
        String way = "thing BORDER 15 6 400000; ";
        edge.noneEach("no thing", "", "of # 0", MIN, -1, 0, 1, 79, 80, MAX);
        edge.noneEach("no such thing", way, "of # 0", MIN, -1, 1, 79, 80, MAX);
        edge.noneEach("no such thing of 80", Edge.times(80, "thing SET 1 1 8"), "of # 0", MIN, -1, 80, MAX);
        edge.asked("the last of 80", Edge.times(80, "thing SET 1 1 #"), "of 79 0 = 3; of 79 5 = 9");
        edge.noneEach("another what", way, "of 0 #", MIN, -1, 7, 8, MAX);
        edge.noneEach("it hangs nowhere", way, "of 0 #", 3, 4);
        edge.noneEach("it was struck", Edge.strong(1, 8, 9) + "thing SET 1 1 8; hang 0 0 3; strike 0", "of 0 #", 3, 4);
        edge.noneEach("it was undone", way + "undo", "of 0 #", 0, 1, 2, 3, 4, 5, 6);
        edge.asked("all of it", way, "of 0 0 = 1; of 0 1 = 15; of 0 2 = 6; of 0 5 = 50000; of 0 6 = 0");
        edge.asked("bar 0, place 0", Edge.strong(1, 8, 9) + "thing SET 1 1 8; hang 0 0 0", "of 0 3 = 0; of 0 4 = 0");
        edge.asked("of a FLYER the lesser bar", "bar 10 8 9; bar 11 8 9; line 10 7 1 9; line 11 7 1 9; thing FLYER 1 1 8; hang 0 10 7", "of 0 3 = 10; of 0 4 = 7");
        int[][] grams = {{0, 0, 0}, {7, 0, 0}, {8, 1, 0}, {15, 1, 0}, {16, 2, 1}, {31, 3, 1}, {32, 4, 2}, {399999, 49999, 24999}, {400000, 50000, 25000}};
        for (int[] it : grams) {
            edge.asked("grams are cut, not hanging", "thing SET 1 1 " + it[0] + "; thing FLYER 1 1 " + it[0], "of 0 5 = " + it[1] + "; of 1 5 = " + it[2]);
        }
        edge.asked("grams, hanging", Edge.strong(2, 8, 9) + "thing SET 1 1 31; thing FLYER 1 1 31; hang 0 0 0; hang 1 0 3", "of 0 5 = 3; of 1 5 = 1");
        edge.asked("a LAMP that is not hot", "thing LAMP 1 1 8", "of 0 6 = 0");
        edge.asked("a LAMP that is hot", "thing LAMP 1 1 8; heat 0 1", "of 0 6 = 1");
        edge.asked("a LAMP that was hot", "thing LAMP 1 1 8; heat 0 80000; heat 0 0", "of 0 6 = 0");
    }

    private static void barOf() {
        edge.promise(26);
        String way = "bar 0 2 1; bar 11 16 30; ";
        for (int what = 0; what <= 8; what++) {
            edge.noneEach("no such bar", way, "barOf # " + what, MIN, -1, 12, MAX);
            edge.noneEach("a bar that is not rigged", way, "barOf # " + what, 1, 5, 10);
            edge.noneEach("a bar that was stripped", way + "strip 0", "barOf # " + what, 0);
        }
        edge.noneEach("another what", way, "barOf 0 #", MIN, -1, 9, 10, MAX);
        edge.asked("the least bar", way, "barOf 0 0 = 2; barOf 0 1 = 1; barOf 0 2 = 0; barOf 0 3 = 0; barOf 0 4 = 0; barOf 0 5 = 0; barOf 0 6 = 0; barOf 0 7 = 1; barOf 0 8 = 1");
        edge.asked("the greatest bar", way, "barOf 11 0 = 16; barOf 11 1 = 30; barOf 11 6 = 11");
        String full = "bar 3 16 9; " + Edge.times(16, "line 3 # 1 30000; thing SET 1 1 200000; hang # 3 #") + "brick 3 400; cue 3 5 0 20; go 20; ";
        edge.asked("a full bar, high", full, "barOf 3 2 = 100; barOf 3 3 = 400; barOf 3 4 = 16; barOf 3 5 = 16; barOf 3 7 = 1; barOf 3 8 = 1");
        edge.asked("lines that were cut do not count", full + "cut 0; cut 15", "barOf 3 5 = 14; barOf 3 7 = 0");
        edge.asked("another bar's lines do not count", "bar 3 8 9; bar 4 8 9; line 4 0 1 9", "barOf 3 5 = 0; barOf 4 5 = 1");
    }

    private static void load() {
        edge.promise(27);
        edge.asked("not rigged", "bar 3 8 9; strip 3", "load -2147483648 = 0.0; load -1 = 0.0; load 0 = 0.0; load 3 = 0.0; load 12 = 0.0; load 2147483647 = 0.0");
        edge.asked("empty", "bar 3 8 9; hook 3 0 on; brick 3 5", "load 3 = 0.0");
        String eighth = Edge.strong(2, 16, 9) + "thing CLOTH 1 1 1; thing FLYER 1 1 1; ";
        edge.asked("an eighth", eighth + "hang 0 0 0", "load 0 = 0.125; load 1 = 0.0");
        edge.asked("half an eighth on both", eighth + "hang 1 0 0", "load 0 = 0.0625; load 1 = 0.0625");
        edge.asked("the last place too", eighth + "hang 0 0 15; hang 1 0 0", "load 0 = 0.1875; load 1 = 0.0625");
        String full = "bar 3 16 9; " + Edge.times(16, "line 3 # 1 30000; thing SET 1 1 240007; hang # 3 #");
        edge.asked("the most that can be held", full, "load 3 = 480014.0; barOf 3 8 = 0; even 3 = 480");
        edge.asked("a thing of no weight", Edge.strong(1, 8, 9) + "thing CLOTH 1 1 0; hang 0 0 0", "load 0 = 0.0; barOf 0 4 = 1");
        edge.asked("struck again", eighth + "hang 0 0 0; strike 0", "load 0 = 0.0");
    }

    private static void shareNone() {
        edge.promise(28);
        String way = "bar 3 8 9; line 3 0 1 9; ";
        edge.noneEach("no line", "bar 3 8 9", "share #", MIN, -1, 0, 39, 40, MAX);
        edge.noneEach("no such line", way, "share #", MIN, -1, 1, 39, 40, MAX);
        edge.noneEach("cut", way + "cut 0", "share #", 0);
        edge.noneEach("gone with its bar", way + "strip 3", "share #", 0);
        edge.noneEach("gone with its bar, which is rigged anew", way + "strip 3; bar 3 8 9", "share #", 0);
        edge.noneEach("undone", way + "undo", "share #", 0);
        edge.asked("a bar with nothing on it", way, "share 0 = 0");
    }

    /** "at places a and b around its place p, bear g (b - p) / (b - a) and g (p - a) / (b - a)". */
    private static void shares() {
        for (int distance = 1; distance <= 15; distance++) {
            String way = "bar 3 16 9; line 3 0 1 30000; line 3 " + distance + " 1 30000; thing SET 1 1 8; ";
            for (int place = 0; place <= distance; place++) {
                edge.asked("between lines " + distance + " apart", way + "hang 0 3 " + place,
                        "share 0 = " + 360360 * (distance - place) / distance + "; share 1 = " + 360360 * place / distance);
            }
        }
        String three = "bar 3 16 9; line 3 12 1 30000; line 3 3 1 30000; line 3 7 1 30000; thing SET 1 1 80; ";
        edge.asked("beyond the outermost one, below", three + "hang 0 3 0", "share 0 = 0; share 1 = 3603600; share 2 = 0");
        edge.asked("at the outermost one, below", three + "hang 0 3 3", "share 0 = 0; share 1 = 3603600; share 2 = 0");
        edge.asked("just behind it", three + "hang 0 3 4", "share 0 = 0; share 1 = 2702700; share 2 = 900900");
        edge.asked("at the one between", three + "hang 0 3 7", "share 0 = 0; share 1 = 0; share 2 = 3603600");
        edge.asked("behind the one between", three + "hang 0 3 8", "share 0 = 720720; share 1 = 0; share 2 = 2882880");
        edge.asked("at the outermost one, above", three + "hang 0 3 12", "share 0 = 3603600; share 1 = 0; share 2 = 0");
        edge.asked("beyond the outermost one, above", three + "hang 0 3 15", "share 0 = 3603600; share 1 = 0; share 2 = 0");
        edge.asked("the line between was cut", three + "hang 0 3 4; cut 2", "share 0 = 400400; share 1 = 3203200; share 2 = NONE");
        edge.asked("one line bears all", "bar 3 16 9; line 3 7 1 30000; line 3 0 1 9; thing SET 1 1 8; thing SET 1 1 8; hang 0 3 0; hang 1 3 15; cut 1", "share 0 = 720720");
        String off = "bar 3 16 9; line 3 0 1 30000; line 3 15 1 30000; thing SET 1 1 80; hang 0 3 #; ";
        edge.asked("one line, at the first place", off.replace("#", "5") + "cut 1", "share 0 = 3603600; barOf 3 7 = 0");
        edge.asked("one line, at the last place", off.replace("#", "5") + "cut 0", "share 1 = 3603600; barOf 3 7 = 0");
        edge.asked("one line, at the first place, and the thing too", off.replace("#", "0") + "cut 1", "share 0 = 3603600; barOf 3 7 = 1");
        edge.asked("one line, at the last place, and the thing too", off.replace("#", "15") + "cut 0", "share 1 = 3603600; barOf 3 7 = 1");
        String most = "bar 3 16 9; line 3 0 1 30000; line 3 1 1 30000; " + Edge.times(8, "thing SET 1 1 30000") + Edge.times(8, "hang # 3 #");
        edge.asked("as much as lines can bear", most, "share 0 = 1351350000; share 1 = 9459450000");
        edge.asked("a FLYER's half, cut, on both bars", "bar 3 9 9; bar 4 9 9; line 3 0 1 9; line 3 8 1 9; line 4 4 1 9; thing FLYER 1 1 63; hang 0 3 4", "share 0 = 540540; share 1 = 540540; share 2 = 1081080");
        String heaviest = "bar 3 16 9; line 3 0 1 30000; line 3 15 1 30000; thing SET 1 1 400000; hang 0 3 7; ";
        edge.asked("the heaviest thing", heaviest, "share 0 = 9609600000; share 1 = 8408400000");
    }

    private static void strength() {
        edge.promise(29);
        String way = "bar 3 8 9; line 3 0 8 30000; ";
        edge.noneEach("no line", "bar 3 8 9", "strength #", MIN, -1, 0, 39, 40, MAX);
        edge.noneEach("no such line", way, "strength #", MIN, -1, 1, 39, 40, MAX);
        edge.noneEach("cut", way + "cut 0", "strength #", 0);
        edge.noneEach("gone with its bar", way + "strip 3", "strength #", 0);
        edge.noneEach("undone", way + "undo", "strength #", 0);
        edge.asked("unworn", way, "strength 0 = 30000");
        for (int part = 0; part < 8; part++) {
            edge.asked("the weakest part is " + part, way + Edge.times(8, "wear 0 # 5") + "wear 0 " + part + " 1", "strength 0 = 29994");
        }
        edge.asked("nothing left", way + "wear 0 3 30000", "strength 0 = 0");
    }

    private static void even() {
        edge.promise(30);
        edge.noneEach("not rigged", "bar 3 8 9; strip 3", "even #", MIN, -1, 0, 3, 11, 12, MAX);
        int[][] dues = {{0, 0, 0}, {0, 1, -1}, {0, 2000, -2000}, {1, 0, 0}, {1, 1, 0}, {1, 2, -1}, {7999, 0, 0}, {7999, 1, 0}, {7999, 2, -1}, {8000, 0, 1}, {8000, 1, 0}, {8000, 2, -1},
            {8001, 0, 1}, {8001, 1, 0}, {8001, 2, 0}, {8001, 3, -1}, {15999, 0, 1}, {15999, 1, 0}, {15999, 3, -1}, {16000, 0, 2}, {16000, 1, 1}, {16000, 2, 0}, {16000, 3, -1},
            {240000, 0, 30}, {240000, 2000, -1970}, {239999, 0, 29}, {239999, 2000, -1970}};
        for (int[] it : dues) {
            edge.asked(it[0] + " eighths, " + it[1] + " bricks", Edge.strong(1, 8, 9) + "thing SET 1 1 " + it[0] + "; hang 0 0 0; brick 0 " + it[1],
                    "even 0 = " + it[2] + "; barOf 0 8 = " + (it[2] == 0 ? 1 : 0));
        }
        edge.asked("half an eighth above 1000", Edge.strong(2, 8, 9) + "thing FLYER 1 1 16001; hang 0 0 0; brick 0 3; brick 1 2", "even 0 = -1; even 1 = 0; load 0 = 1000.0625");
        edge.asked("half an eighth below 1000", Edge.strong(2, 8, 9) + "thing FLYER 1 1 15999; hang 0 0 0; brick 1 3", "even 0 = 0; even 1 = -2; load 0 = 999.9375");
    }

    private static void told() {
        edge.promise(34);
        edge.noneEach("another what", "bar 3 8 9", "told #", MIN, -1, 10, 11, MAX);
        edge.asked("all are 0", "", Edge.times(10, "told # = 0"));
        edge.asked("all twelve bars", Edge.times(12, "bar # 2 1"), "told 0 = 12");
        edge.asked("bars that were stripped do not count", Edge.times(12, "bar # 2 1") + "strip 0; strip 11", "told 0 = 10");
        String lines = "bar 0 16 9; bar 1 16 9; bar 2 16 9; " + Edge.times(16, "line 0 # 1 9; line 1 # 1 9") + Edge.times(8, "line 2 # 1 9");
        edge.asked("all 40 lines", lines, "told 1 = 40");
        edge.asked("lines that are not there do not count", lines + "cut 0; cut 39; strip 1", "told 1 = 22");
        edge.asked("80 things, none hangs", Edge.times(80, "thing SET 1 1 8"), "told 2 = 80; told 3 = 0");
        edge.asked("a FLYER hangs once", Edge.strong(2, 8, 9) + "thing FLYER 1 1 8; thing SET 1 1 8; thing SET 1 1 8; hang 0 0 3; hang 2 0 4", "told 2 = 3; told 3 = 2");
        edge.asked("60 cues", "bar 3 8 9; " + Edge.times(60, "cue 3 1 # 1") + "hush 3", "told 4 = 60");
        edge.asked("more stops than are kept", "bar 3 8 9; " + Edge.times(50, "cue 3 -1 # 1") + "go 100", "told 5 = 50");
        edge.asked("the latest 60 acts", "bar 3 8 9; " + Edge.times(70, "brick 3 1"), "told 6 = 60");
        edge.asked("40 steps", Edge.times(40, "tell 1 0 0 0 0") + "!tell 1 0 0 0 0", "told 7 = 40");
        edge.asked("units, up and down", "bar 3 8 9; cue 3 5 0 2; go 2; cue 3 -5 2 1; go 2; go 1", "told 8 = 15; told 9 = 5");
        edge.asked("units that were undone", "bar 3 8 9; cue 3 5 0 9; go 2; go 3; undo", "told 8 = 10; told 9 = 2");
        edge.asked("the TIME", Edge.times(50, "go 100"), "told 9 = 5000; told 6 = 50");
    }
}
