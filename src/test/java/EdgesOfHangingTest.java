/** The edges of promises 7 to 10 and 13, and of CLASH, HOT, HELD and the bounds of things. */
public final class EdgesOfHangingTest {
    private static final int MIN = Integer.MIN_VALUE;
    private static final int MAX = Integer.MAX_VALUE;
    private static final Edge edge = new Edge();
    private static final String[] KINDS = {"CLOTH", "BORDER", "LAMP", "SET", "FLYER"};

    public static void main(String[] args) {
        thing();
        heat();
        heatHot();
        hangNumbers();
        hangHigh();
        hangTaken();
        hangOrder();
        hangFlyerOrder();
        clashByDepth();
        clashByKind();
        clashByHeight();
        clashSubject();
        tooHot();
        hotSubject();
        heldByTwoLines();
        heldByOneLine();
        heavySubject();
        strike();
        edge.end();
    }

    private static void thing() {
        edge.promise(7);
        edge.noEach("kind", "", "thing # 1 1 8", Due.NUMBER, MIN, -1, 5, MAX);
        edge.noEach("depth", "", "thing CLOTH # 1 8", Due.NUMBER, MIN, -1, 0, 16, MAX);
        edge.noEach("tallness", "", "thing CLOTH 1 # 8", Due.NUMBER, MIN, -1, 0, 41, MAX);
        edge.noEach("tallness of a BORDER", "", "thing BORDER 1 # 8", Due.NUMBER, MIN, -1, 0, 7, 40, 41, MAX);
        edge.noEach("eighths", "", "thing CLOTH 1 1 #", Due.NUMBER, MIN, -1, 400001, MAX);
        for (int kind = 0; kind < KINDS.length; kind++) {
            int tallest = kind == Due.BORDER ? 6 : 40;
            int grams = kind == Due.FLYER ? 25000 : 50000;
            edge.yes("the least " + KINDS[kind], "", "thing " + kind + " 1 1 0", 0, "of 0 0 = " + kind
                    + "; of 0 1 = 1; of 0 2 = 1; of 0 3 = NONE; of 0 4 = NONE; of 0 5 = 0; of 0 6 = 0; told 2 = 1; told 3 = 0");
            edge.yes("the greatest " + KINDS[kind], "", "thing " + kind + " 15 " + tallest + " 400000", 0, "of 0 0 = " + kind
                    + "; of 0 1 = 15; of 0 2 = " + tallest + "; of 0 5 = " + grams + "; of 0 3 = NONE; of 0 4 = NONE");
        }
        edge.yes("the 80th thing", Edge.times(79, "thing CLOTH 1 1 8"), "thing SET 2 3 8", 79, "told 2 = 80; of 79 0 = 3");
        edge.no("the 81st thing", Edge.times(80, "thing CLOTH 1 1 8"), "thing SET 2 3 8", Due.MUCH);
        edge.noEach("NUMBER ahead of MUCH", Edge.times(80, "thing CLOTH 1 1 8"), "thing # 1 1 8", Due.NUMBER, -1, 5);
        edge.no("NUMBER, a BORDER, ahead of MUCH", Edge.times(80, "thing CLOTH 1 1 8"), "thing BORDER 1 7 8", Due.NUMBER);
        edge.yes("the 80th was undone", Edge.times(80, "thing CLOTH 1 1 8") + "undo", "thing LAMP 2 3 8", 79, "of 79 0 = 2");
    }

    private static void heat() {
        edge.promise(8);
        String lamp = "thing LAMP 1 1 8; ";
        edge.no("no thing was told", "", "heat 0 1", Due.BEYOND);
        edge.noEach("no such thing", lamp, "heat # 1", Due.BEYOND, MIN, -1, 1, 79, 80, MAX);
        edge.noEach("no such thing of 80", Edge.times(80, "thing LAMP 1 1 8"), "heat # 1", Due.BEYOND, -1, 80);
        edge.yes("the last thing of 80", Edge.times(80, "thing LAMP 1 1 8"), "heat 79 1", 0, "of 79 6 = 1; of 78 6 = 0");
        for (String kind : KINDS) {
            if (!kind.equals("LAMP")) {
                edge.no("a " + kind + " is no LAMP", "thing " + kind + " 1 1 8", "heat 0 1", Due.KIND);
                edge.no("KIND ahead of NUMBER", "thing " + kind + " 1 1 8", "heat 0 -1", Due.KIND);
            }
        }
        edge.noEach("eighths", lamp, "heat 0 #", Due.NUMBER, MIN, -1, 80001, MAX);
        edge.no("BEYOND ahead of NUMBER", lamp, "heat 1 80001", Due.BEYOND);
        edge.yes("0 is not hot", lamp + "heat 0 5", "heat 0 0", 5, "of 0 6 = 0; heat 0 1 = 0");
        edge.yes("1 is hot", lamp, "heat 0 1", 0, "of 0 6 = 1; heat 0 0 = 1");
        edge.yes("80000", lamp, "heat 0 80000", 0, "of 0 6 = 1; heat 0 0 = 80000");
        edge.yes("a LAMP on a high bar", Edge.strong(1, 8, 8) + lamp + "hang 0 0 3; cue 0 1 0 1; go 1", "heat 0 9", 0, "of 0 6 = 1");
    }

    private static void heatHot() {
        String way = Edge.strong(2, 12, 30) + "thing LAMP 1 1 8; hang 0 0 5; ";
        for (String kind : new String[] {"CLOTH", "BORDER"}) {
            for (int place : new int[] {3, 4, 6, 7}) {
                edge.no("a " + kind + " at most 2 from it", way + "thing " + kind + " 1 1 8; hang 1 0 " + place, "heat 0 1", Due.HOT, 1);
            }
            for (int place : new int[] {2, 8}) {
                edge.yes("a " + kind + " 3 from it", way + "thing " + kind + " 1 1 8; hang 1 0 " + place, "heat 0 80000", 0);
            }
            edge.yes("a " + kind + " on the neighbour", way + "thing " + kind + " 1 1 8; hang 1 1 5", "heat 0 1", 0);
            edge.yes("a " + kind + " and a heat of 0", way + "thing " + kind + " 1 1 8; hang 1 0 4", "heat 0 0", 0);
            edge.yes("a " + kind + " that hangs nowhere", way + "thing " + kind + " 1 1 8", "heat 0 1", 0);
            edge.no("NUMBER ahead of HOT", way + "thing " + kind + " 1 1 8; hang 1 0 4", "heat 0 80001", Due.NUMBER);
        }
        for (String kind : new String[] {"LAMP", "SET", "FLYER"}) {
            edge.yes("a " + kind + " beside it", way + "thing " + kind + " 1 1 8; hang 1 0 4", "heat 0 1", 0);
        }
        String two = way + "thing CLOTH 1 1 8; thing BORDER 1 1 8; thing CLOTH 1 1 8; ";
        edge.no("the least of two, by number, not by place", two + "hang 2 0 7; hang 3 0 3", "heat 0 1", Due.HOT, 2);
        edge.no("the least of two, the other way round", two + "hang 3 0 7; hang 2 0 3", "heat 0 1", Due.HOT, 2);
        edge.no("one that is not too near does not count", two + "hang 1 0 2; hang 3 0 3", "heat 0 1", Due.HOT, 3);
        edge.yes("a LAMP that was struck", way + "thing CLOTH 1 1 8; hang 1 0 4; strike 0", "heat 0 1", 0);
    }

    private static void hangNumbers() {
        edge.promise(9);
        String way = Edge.strong(1, 8, 8) + "bar 11 8 8; line 11 0 1 9999; line 11 7 1 9999; thing CLOTH 1 1 8; ";
        edge.no("no thing was told", Edge.strong(1, 8, 8), "hang 0 0 0", Due.BEYOND);
        edge.noEach("no such thing", way, "hang # 0 0", Due.BEYOND, MIN, -1, 1, 79, 80, MAX);
        String eighty = Edge.strong(1, 8, 8) + Edge.times(80, "thing CLOTH 1 1 8");
        edge.noEach("no such thing of 80", eighty, "hang # 0 0", Due.BEYOND, -1, 80);
        edge.yes("the last thing of 80", eighty, "hang 79 0 0", 1, "at 0 0 = 81; of 79 3 = 0; of 79 4 = 0; told 3 = 1");
        edge.no("it hangs", way + "hang 0 0 2", "hang 0 0 3", Due.THERE);
        edge.no("it hangs on another bar", way + "hang 0 0 2", "hang 0 11 2", Due.THERE);
        edge.noEach("no such bar", way, "hang 0 # 0", Due.BEYOND, MIN, -1, 12, MAX);
        edge.no("not rigged", way, "hang 0 1 0", Due.MISSING);
        edge.noEach("no such place", way, "hang 0 0 #", Due.BEYOND, MIN, -1, 8, 15, MAX);
        edge.yes("the first bar and place", way, "hang 0 0 0", 1, "at 0 0 = 2; of 0 3 = 0; of 0 4 = 0; barOf 0 4 = 1");
        edge.yes("the last bar and place", way, "hang 0 11 7", 1, "at 11 7 = 2; of 0 3 = 11; of 0 4 = 7; barOf 11 4 = 1");
        String flyer = "thing FLYER 1 1 8; ";
        String last = "bar 9 8 8; bar 10 8 8; bar 11 8 8; line 10 3 1 9; line 11 3 1 9; " + flyer;
        edge.noEach("no such bar for a FLYER", last, "hang 0 # 3", Due.BEYOND, MIN, -1, 11, 12, MAX);
        edge.yes("the last two bars", last, "hang 0 10 3", 1, "at 10 3 = 2; at 11 3 = 2; of 0 3 = 10; barOf 11 4 = 1; told 3 = 1");
        edge.no("a FLYER, below bar 0", "bar 0 8 8; line 0 3 1 9; " + flyer, "hang 0 -1 3", Due.BEYOND);
        edge.no("a FLYER, the bar is missing", "bar 5 8 8; " + flyer, "hang 0 4 3", Due.MISSING);
        edge.no("a FLYER, the next bar is missing", "bar 5 8 8; " + flyer, "hang 0 5 3", Due.MISSING);
        edge.no("a FLYER, both are missing", flyer, "hang 0 5 3", Due.MISSING);
        String fewer = "bar 4 8 8; bar 5 4 8; bar 6 8 8; " + Edge.from(4, 7, "line # 3 1 9") + flyer;
        edge.noEach("a FLYER, no such place of the bar", fewer, "hang 0 5 #", Due.BEYOND, -1, 4, 7, 8, MAX);
        edge.noEach("a FLYER, no such place of the next bar", fewer, "hang 0 4 #", Due.BEYOND, -1, 4, 7, 8, MAX);
        edge.yes("a FLYER, the last place of the lesser one", fewer, "hang 0 4 3", 1);
        edge.yes("a FLYER, the last place of the lesser one", fewer, "hang 0 5 3", 1);
        String fifteen = "bar 2 16 8; " + Edge.times(16, "line 2 # 1 9") + Edge.times(17, "thing CLOTH 1 1 8")
                + Edge.times(15, "hang # 2 #");
        edge.yes("the sixteenth thing on a bar", fifteen, "hang 15 2 15", 16, "barOf 2 4 = 16; told 3 = 16");
        edge.noEach("a full bar", fifteen + "hang 15 2 15", "hang 16 2 #", Due.TAKEN, 0, 7, 15);
    }

    private static void hangHigh() {
        String way = Edge.strong(3, 8, 8) + "thing CLOTH 1 1 8; thing FLYER 1 1 8; ";
        edge.no("at height 1", way + "cue 1 1 0 1; go 1", "hang 0 1 3", Due.HIGH);
        edge.no("at height 100", way + "cue 1 5 0 20; go 20", "hang 0 1 3", Due.HIGH);
        edge.yes("at height 0 again", way + "cue 1 1 0 1; cue 1 -1 1 1; go 2", "hang 0 1 3", 1);
        edge.yes("a high neighbour", way + "cue 1 1 0 1; go 1", "hang 0 2 3", 1);
        edge.no("a FLYER, the bar is high", way + "cue 1 1 0 1; go 1", "hang 1 1 3", Due.HIGH);
        edge.no("a FLYER, the next bar is high", way + "cue 1 1 0 1; go 1", "hang 1 0 3", Due.HIGH);
        edge.no("a FLYER, both are high alike", way + "cue 1 1 0 1; cue 0 1 0 1; go 1", "hang 1 0 3", Due.HIGH);
        edge.yes("a FLYER, the bar behind both is high", way + "cue 2 1 0 1; go 1", "hang 1 0 3", 1);
        edge.yes("a FLYER, the bar ahead of both is high", way + "cue 0 1 0 1; go 1", "hang 1 1 3", 1);
        edge.yes("a cue that has not moved it yet", way + "cue 1 1 0 1", "hang 0 1 3", 1);
    }

    private static void hangTaken() {
        String way = Edge.strong(2, 8, 8) + "thing CLOTH 1 1 8; thing FLYER 1 1 8; thing FLYER 1 1 8; thing SET 1 1 8; ";
        edge.no("a hook", way + "hook 0 3 on", "hang 0 0 3", Due.TAKEN);
        edge.no("a thing", way + "hang 3 0 3", "hang 0 0 3", Due.TAKEN);
        edge.no("a FLYER of the bar below", way + "hang 1 0 3", "hang 0 1 3", Due.TAKEN);
        edge.yes("the next place", way + "hang 1 0 3; hook 1 5 on", "hang 0 1 4", 2);
        edge.yes("a hook that was taken off", way + "hook 0 3 on; hook 0 3 off", "hang 0 0 3", 1);
        edge.yes("a thing that was struck", way + "hang 3 0 3; strike 3", "hang 0 0 3", 1);
        edge.no("a FLYER, a hook on the bar", way + "hook 0 3 on", "hang 1 0 3", Due.TAKEN);
        edge.no("a FLYER, a hook on the next bar", way + "hook 1 3 on", "hang 1 0 3", Due.TAKEN);
        edge.no("a FLYER, a thing on the next bar", way + "hang 0 1 3", "hang 1 0 3", Due.TAKEN);
        edge.no("a FLYER, a FLYER there", way + "hang 2 0 3", "hang 1 0 3", Due.TAKEN);
        edge.yes("a FLYER counts on that bar", way + "hang 2 0 2; hang 0 1 5", "hang 1 0 3", 2, "barOf 1 4 = 3");
    }

    private static void hangOrder() {
        String way = "bar 0 8 10; bar 1 8 10; line 1 0 1 30000; line 1 7 1 30000; thing CLOTH 9 9 8; thing SET 9 9 8; "
                + "thing LAMP 1 1 0; heat 2 1; thing SET 1 1 8; ";
        edge.no("BEYOND, no thing, ahead of MISSING", way, "hang 4 2 0", Due.BEYOND);
        edge.no("BEYOND, no thing, ahead of TAKEN", way + "hook 0 3 on", "hang 4 0 3", Due.BEYOND);
        String hung = way + "hang 3 1 6; ";
        edge.no("THERE ahead of BEYOND, no bar", hung, "hang 3 12 0", Due.THERE);
        edge.no("THERE ahead of MISSING", hung, "hang 3 2 0", Due.THERE);
        edge.no("THERE ahead of BEYOND, no place", hung, "hang 3 1 8", Due.THERE);
        edge.no("THERE ahead of HIGH", hung + "cue 0 1 0 1; go 1", "hang 3 0 0", Due.THERE);
        edge.no("THERE ahead of TAKEN", hung, "hang 3 1 6", Due.THERE);
        edge.no("THERE ahead of HEAVY", hung, "hang 3 0 6", Due.THERE);
        edge.no("BEYOND, no bar, whatever the place", way, "hang 0 12 -1", Due.BEYOND);
        edge.no("MISSING ahead of BEYOND, no place", way, "hang 0 2 -1", Due.MISSING);
        edge.no("BEYOND, no place, ahead of HIGH", way + "cue 0 1 0 1; go 1", "hang 0 0 8", Due.BEYOND);
        edge.no("HIGH ahead of TAKEN", way + "hook 0 3 on; cue 0 1 0 1; go 1", "hang 0 0 3", Due.HIGH);
        edge.no("HIGH ahead of HEAVY", way + "cue 0 1 0 1; go 1", "hang 0 0 3", Due.HIGH);
        edge.no("HIGH ahead of CLASH", way + "hang 1 1 3; cue 0 1 0 1; go 1", "hang 0 0 3", Due.HIGH);
        edge.no("TAKEN ahead of CLASH", way + "hang 1 1 3; hook 0 3 on", "hang 0 0 3", Due.TAKEN);
        edge.no("TAKEN ahead of HOT", way + "hang 2 1 4; hook 1 3 on", "hang 0 1 3", Due.TAKEN);
        edge.no("TAKEN ahead of HEAVY", way + "hook 0 3 on", "hang 0 0 3", Due.TAKEN);
        String hot = way + "line 0 4 1 9; hang 2 0 4; cut 2; ";
        edge.no("CLASH ahead of HOT", hot + "line 0 4 1 9; hang 1 1 3", "hang 0 0 3", Due.CLASH, 1);
        edge.no("CLASH ahead of HEAVY", way + "hang 1 1 3", "hang 0 0 3", Due.CLASH, 1);
        edge.no("CLASH ahead of HOT and HEAVY", hot + "hang 1 1 3", "hang 0 0 3", Due.CLASH, 1);
        edge.no("HOT ahead of HEAVY", hot, "hang 0 0 3", Due.HOT, 0);
        edge.no("HEAVY alone", hot, "hang 0 0 7", Due.HEAVY, 0);
        edge.yes("none of them", hot + "line 0 4 1 9; line 0 7 1 9", "hang 0 0 7", 2);
    }

    private static void hangFlyerOrder() {
        String way = "bar 4 8 10; bar 5 4 10; thing FLYER 9 9 16; thing SET 9 9 8; ";
        edge.no("BEYOND, the next bar is none, ahead of MISSING", way, "hang 0 11 0", Due.BEYOND);
        edge.no("MISSING, the next bar, ahead of BEYOND, no place of the bar", way, "hang 0 5 4", Due.MISSING);
        edge.no("MISSING, the bar, ahead of BEYOND, no place of the next", way, "hang 0 3 8", Due.MISSING);
        edge.no("BEYOND, no place of the next bar, ahead of HIGH", way + "cue 4 1 0 1; go 1", "hang 0 4 4", Due.BEYOND);
        edge.no("HIGH, the next bar, ahead of TAKEN of the bar", way + "hook 4 3 on; cue 5 1 0 1; go 1", "hang 0 4 3", Due.HIGH);
        edge.no("HIGH, the bar, ahead of TAKEN of the next bar", way + "hook 5 3 on; cue 4 1 0 1; go 1", "hang 0 4 3", Due.HIGH);
        String beside = way + "bar 6 8 10; line 6 3 1 9; hang 1 6 3; ";
        edge.no("TAKEN, the bar, ahead of CLASH with one beyond the next", beside + "hook 4 3 on", "hang 0 4 3", Due.TAKEN);
        edge.no("TAKEN, the next bar, ahead of HEAVY", way + "hook 5 3 on", "hang 0 4 3", Due.TAKEN);
        edge.no("CLASH with one beyond the next bar, ahead of HEAVY of the bar", beside, "hang 0 4 3", Due.CLASH, 1);
        edge.no("HEAVY", way, "hang 0 4 3", Due.HEAVY, 4);
    }

    /** "their depths together are above the gap, or just the gap when one of them is a SET or a FLYER". */
    private static void clashByDepth() {
        edge.terms(2);
        for (int one = 0; one < KINDS.length; one++) {
            for (int two = 0; two < KINDS.length; two++) {
                boolean isFirm = one >= Due.SET || two >= Due.SET;
                String way = Edge.strong(4, 8, 10) + "thing " + one + " 5 6 16; hang 0 " + (one == Due.FLYER ? 0 : 1) + " 3; ";
                String hang = "hang 1 2 3";
                String both = KINDS[one] + " and " + KINDS[two];
                edge.yes(both + " below the gap", way + "thing " + two + " 4 6 16", hang, 1);
                edge.no(both + " above the gap", way + "thing " + two + " 6 6 16", hang, Due.CLASH, 0);
                if (isFirm) {
                    edge.no(both + ", just the gap", way + "thing " + two + " 5 6 16", hang, Due.CLASH, 0);
                } else {
                    edge.yes(both + ", just the gap", way + "thing " + two + " 5 6 16", hang, 1);
                }
            }
        }
    }

    private static void clashByKind() {
        String gap30 = Edge.strong(2, 8, 30);
        edge.yes("the deepest two CLOTHS and the greatest gap", gap30 + "thing CLOTH 15 9 8; thing CLOTH 15 9 8; hang 0 0 3", "hang 1 1 3", 1);
        edge.no("the deepest two SETS and the greatest gap", gap30 + "thing SET 15 9 8; thing SET 15 9 8; hang 0 0 3", "hang 1 1 3", Due.CLASH, 0);
        edge.yes("a SET a little less deep", gap30 + "thing SET 15 9 8; thing SET 14 9 8; hang 0 0 3", "hang 1 1 3", 1);
        String gap1 = Edge.strong(2, 8, 1);
        edge.no("the thinnest two CLOTHS and the least gap", gap1 + "thing CLOTH 1 9 8; thing CLOTH 1 9 8; hang 0 0 3", "hang 1 1 3", Due.CLASH, 0);
        edge.yes("in the place beside it", gap1 + "thing CLOTH 1 9 8; thing CLOTH 1 9 8; hang 0 0 3", "hang 1 1 4", 1);
        edge.yes("in the place beside it", gap1 + "thing CLOTH 1 9 8; thing CLOTH 1 9 8; hang 0 0 3", "hang 1 1 2", 1);
        edge.yes("on the bar behind the next", Edge.strong(3, 8, 1) + "thing SET 9 9 8; thing SET 9 9 8; hang 0 0 3", "hang 1 2 3", 1);
        edge.yes("the same FLYER", gap1 + "thing FLYER 15 40 8", "hang 0 0 3", 1);
        String gaps = "bar 0 8 5; bar 1 8 9; bar 2 8 5; " + Edge.times(3, "line # 3 1 99") + "thing SET 4 9 8; thing SET 3 9 8; hang 0 1 3; ";
        edge.no("the gap of the lesser bar, below", gaps, "hang 1 0 3", Due.CLASH, 0);
        edge.yes("the gap of the lesser bar, above", gaps, "hang 1 2 3", 1);
        edge.yes("a hook does not clash", gap1 + "hook 0 3 on; thing SET 9 9 8", "hang 0 1 3", 1);
    }

    /** "the lower end of each is below the upper end of the other one", with a neighbour that is higher. */
    private static void clashByHeight() {
        for (int low = 0; low < 2; low++) {
            int high = 1 - low;
            String way = Edge.strong(2, 8, 2) + "thing SET 2 10 8; thing SET 2 40 8; thing SET 2 1 8; hang 0 " + high + " 3; ";
            String up = "cue " + high + " 1 0 #; go #; ";
            edge.no("one overlaps by 1", way + up.replace("#", "9"), "hang 1 " + low + " 3", Due.CLASH, 0);
            edge.no("the shortest one overlaps by 1", way + up.replace("#", "9"), "hang 2 " + low + " 3", Due.CLASH, 0);
            edge.yes("the ends just meet", way + up.replace("#", "10"), "hang 1 " + low + " 3", 1);
            edge.yes("the ends are 1 apart", way + up.replace("#", "11"), "hang 1 " + low + " 3", 1);
        }
        String forty = Edge.strong(2, 8, 2) + "thing SET 2 40 8; thing SET 2 1 8; hang 0 0 3; ";
        edge.no("the tallest one at 39", forty + "cue 0 1 0 39; go 39", "hang 1 1 3", Due.CLASH, 0);
        edge.yes("the tallest one at 40", forty + "cue 0 1 0 40; go 40", "hang 1 1 3", 1);
    }

    private static void clashSubject() {
        edge.terms(4);
        String way = Edge.strong(4, 8, 5) + "thing SET 3 9 8; thing SET 3 9 8; thing SET 3 9 8; thing SET 3 9 8; thing FLYER 3 9 8; ";
        edge.no("the least of both neighbours, below", way + "hang 1 0 3; hang 2 2 3", "hang 0 1 3", Due.CLASH, 1);
        edge.no("the least of both neighbours, above", way + "hang 2 0 3; hang 1 2 3", "hang 0 1 3", Due.CLASH, 1);
        edge.no("above alone", way + "hang 2 2 3", "hang 0 1 3", Due.CLASH, 2);
        edge.no("below alone", way + "hang 3 0 3", "hang 0 1 3", Due.CLASH, 3);
        edge.no("a FLYER between two, below", way + "hang 1 0 3; hang 2 3 3", "hang 4 1 3", Due.CLASH, 1);
        edge.no("a FLYER between two, above", way + "hang 2 0 3; hang 1 3 3", "hang 4 1 3", Due.CLASH, 1);
        edge.no("a FLYER and one above", way + "hang 3 3 3", "hang 4 1 3", Due.CLASH, 3);
        edge.no("one with a FLYER", way + "hang 4 1 3", "hang 3 3 3", Due.CLASH, 4);
        edge.no("one with a FLYER", way + "hang 4 1 3", "hang 0 0 3", Due.CLASH, 4);
    }

    /** "a hot LAMP is on the same bar in a place at most 2 from it". */
    private static void tooHot() {
        edge.terms(2);
        String way = Edge.strong(2, 12, 30) + "thing LAMP 1 1 8; ";
        for (String kind : new String[] {"CLOTH", "BORDER"}) {
            String hot = way + "thing " + kind + " 1 1 8; heat 0 1; hang 0 0 5; ";
            for (int place : new int[] {3, 4, 6, 7}) {
                edge.no("a " + kind + " at most 2 from a hot LAMP", hot, "hang 1 0 " + place, Due.HOT, 1);
            }
            edge.yes("a " + kind + " 3 ahead of it", hot, "hang 1 0 2", 2);
            edge.yes("a " + kind + " 3 behind it", hot, "hang 1 0 8", 2);
            edge.yes("a " + kind + " on the neighbour", hot, "hang 1 1 5", 1);
            edge.yes("a " + kind + " beside a LAMP that has cooled", hot + "heat 0 0", "hang 1 0 4", 2);
            String hung = way + "thing " + kind + " 1 1 8; heat 0 1; hang 1 0 5; ";
            for (int place : new int[] {3, 4, 6, 7}) {
                edge.no("a hot LAMP at most 2 from a " + kind, hung, "hang 0 0 " + place, Due.HOT, 1);
            }
            edge.yes("a hot LAMP 3 ahead of it", hung, "hang 0 0 2", 2);
            edge.yes("a hot LAMP 3 behind it", hung, "hang 0 0 8", 2);
            edge.no("at the bar's first place", way + "thing " + kind + " 1 1 8; heat 0 1; hang 0 0 2", "hang 1 0 0", Due.HOT, 1);
            edge.no("at the bar's last place", way + "thing " + kind + " 1 1 8; heat 0 1; hang 0 0 9", "hang 1 0 11", Due.HOT, 1);
        }
        for (String kind : new String[] {"LAMP", "SET", "FLYER"}) {
            edge.yes("a " + kind + " beside a hot LAMP", way + "heat 0 1; hang 0 0 5; thing " + kind + " 1 1 8", "hang 1 0 4", 2);
        }
        edge.yes("the ends of a bar are not beside each other", way + "heat 0 1; hang 0 0 0; thing CLOTH 1 1 8", "hang 1 0 11", 2);
        edge.yes("the next bar's first place is not beside the last", way + "heat 0 1; hang 0 0 11; thing CLOTH 1 1 8", "hang 1 1 0", 1);
        String last = "bar 3 16 9; bar 4 16 9; line 3 7 1 99; line 3 8 1 99; line 4 7 1 99; line 4 8 1 99; thing LAMP 1 1 8; heat 0 1; thing CLOTH 1 1 8; ";
        edge.yes("nor is place 15 beside the next bar's place 0", last + "hang 0 3 15", "hang 1 4 0", 1);
        edge.yes("nor is place 0 beside the last bar's place 15", last + "hang 0 4 0", "hang 1 3 15", 1);
    }

    private static void hotSubject() {
        edge.terms(4);
        String way = Edge.strong(1, 12, 30) + "thing CLOTH 1 1 8; thing BORDER 1 1 8; thing LAMP 1 1 8; heat 2 1; thing CLOTH 1 1 8; ";
        edge.no("the least of two, the greater place", way + "hang 1 0 3; hang 0 0 7", "hang 2 0 5", Due.HOT, 0);
        edge.no("the least of two, the lesser place", way + "hang 0 0 3; hang 1 0 7", "hang 2 0 5", Due.HOT, 0);
        edge.no("the only one that is too near", way + "hang 0 0 2; hang 3 0 7", "hang 2 0 5", Due.HOT, 3);
        edge.no("this one", way + "hang 0 0 1; hang 2 0 5", "hang 3 0 6", Due.HOT, 3);
    }

    private static void heldByTwoLines() {
        edge.terms(2);
        String ends = "bar 3 16 9; line 3 0 1 #; line 3 15 1 30000; thing CLOTH 1 1 120; thing CLOTH 1 1 128; ";
        edge.yes("15 grams, 1 of 15 parts, on 1", ends.replace("#", "1"), "hang 0 3 14", 1, "share 0 = 360360; barOf 3 7 = 1");
        edge.no("16 grams, 1 of 15 parts, on 1", ends.replace("#", "1"), "hang 1 3 14", Due.HEAVY, 3);
        edge.yes("16 grams, 1 of 15 parts, on 2", ends.replace("#", "2"), "hang 1 3 14", 1, "share 0 = 384384");
        edge.no("something on a line of 0", ends.replace("#", "0"), "hang 0 3 14", Due.HEAVY, 3);
        edge.yes("nothing on a line of 0", ends.replace("#", "0"), "hang 0 3 15", 1, "share 0 = 0");
        String pair = "bar 3 8 9; line 3 2 2 100; line 3 5 2 100; thing CLOTH 1 1 800; thing CLOTH 1 1 808; thing CLOTH 1 1 807; thing CLOTH 1 1 8; ";
        edge.yes("at the line's place", pair, "hang 0 3 2", 1, "share 0 = 36036000; share 1 = 0");
        edge.no("at the line's place, 1 too much", pair, "hang 1 3 2", Due.HEAVY, 3);
        edge.yes("grams are cut", pair, "hang 2 3 2", 1, "share 0 = 36036000");
        edge.yes("beyond the outermost one, below", pair, "hang 0 3 0", 1, "share 0 = 36036000; share 1 = 0");
        edge.no("beyond the outermost one, below, 1 too much", pair, "hang 1 3 0", Due.HEAVY, 3);
        edge.yes("beyond the outermost one, above", pair, "hang 0 3 7", 1, "share 0 = 0; share 1 = 36036000");
        edge.no("beyond the outermost one, above, 1 too much", pair, "hang 1 3 7", Due.HEAVY, 3);
        edge.yes("between them, 2 of 3 and 1 of 3", pair, "hang 1 3 3", 1, "share 0 = 24264240; share 1 = 12132120");
        edge.yes("shares add up to just the strength", pair + "hang 0 3 0", "hang 3 3 5", 2, "share 0 = 36036000; share 1 = 360360");
        edge.no("shares add up to a third more", pair + "hang 0 3 0", "hang 3 3 4", Due.HEAVY, 3);
        edge.no("the weakest part counts", pair + "wear 1 1 1", "hang 0 3 7", Due.HEAVY, 3);
        edge.yes("a line that was cut bears nothing", pair + "line 3 0 1 0; cut 2", "hang 0 3 0", 1, "share 0 = 36036000");
        String three = "bar 3 8 9; line 3 1 1 100; line 3 6 1 100; line 3 3 1 0; thing CLOTH 1 1 8; ";
        edge.yes("the line between is not beside what is beyond", three, "hang 0 3 0", 1, "share 2 = 0; share 0 = 360360");
        edge.no("the line between is beside it", three, "hang 0 3 4", Due.HEAVY, 3);
        edge.no("a third line of no strength", three, "hang 0 3 2", Due.HEAVY, 3);
    }

    private static void heldByOneLine() {
        String one = "bar 3 9 9; line 3 4 2 100; thing CLOTH 1 1 800; thing CLOTH 1 1 808; thing CLOTH 1 1 807; thing CLOTH 1 1 7; "
                + "thing CLOTH 1 1 8; thing CLOTH 1 1 16; thing CLOTH 1 1 8; ";
        edge.no("a thing of no weight and no line", "bar 3 9 9; thing CLOTH 1 1 0", "hang 0 3 4", Due.HEAVY, 3);
        edge.no("its only line was cut", one + "cut 0", "hang 3 3 4", Due.HEAVY, 3);
        edge.yes("just its strength", one, "hang 0 3 4", 1, "barOf 3 7 = 1; share 0 = 36036000");
        edge.no("1 more than its strength", one, "hang 1 3 4", Due.HEAVY, 3);
        edge.yes("grams are cut", one, "hang 2 3 4", 1);
        edge.no("1 beside it, below", one, "hang 4 3 3", Due.HEAVY, 3);
        edge.no("1 beside it, above", one, "hang 4 3 5", Due.HEAVY, 3);
        edge.yes("7 eighths are no gram, and turn nothing", one, "hang 3 3 8", 1);
        String turned = one + "line 3 0 1 9; hang 5 3 3; cut 1; ";
        edge.no("2 grams, 1 below; 1 gram, 1 above", turned, "hang 4 3 5", Due.HEAVY, 3);
        edge.yes("2 grams, 1 below; 1 gram, 2 above", turned, "hang 4 3 6", 2, "barOf 3 7 = 1; share 0 = 1081080");
        edge.no("2 grams, 1 below; 1 gram, 3 above", turned, "hang 4 3 7", Due.HEAVY, 3);
        String weak = "bar 3 9 9; line 3 4 2 3; line 3 0 1 9; thing CLOTH 1 1 16; thing CLOTH 1 1 8; thing CLOTH 1 1 8; hang 0 3 3; cut 1; ";
        edge.yes("all grams are just the strength", weak, "hang 1 3 6", 2, "share 0 = 1081080");
        edge.no("all grams are above the strength", weak + "wear 0 1 1", "hang 1 3 6", Due.HEAVY, 3);
        edge.asked("a bar with nothing on it is held", "bar 3 9 9; hook 3 2 on", "barOf 3 7 = 1");
        edge.asked("a bar with nothing on it and a line of 0", "bar 3 9 9; line 3 0 1 0", "barOf 3 7 = 1");
        edge.asked("one line that is cut", one + "hang 3 3 4; cut 0", "barOf 3 7 = 0");
        String flyer = "bar 3 9 9; bar 4 9 9; line 3 4 1 1; line 4 4 1 1; thing FLYER 1 1 31; thing FLYER 1 1 32; ";
        edge.yes("half of a FLYER, cut: 1", flyer, "hang 0 3 4", 1, "of 0 5 = 1; share 0 = 360360; share 1 = 360360");
        edge.no("half of a FLYER: 2", flyer, "hang 1 3 4", Due.HEAVY, 3);
    }

    private static void heavySubject() {
        edge.terms(4);
        String way = "bar 3 9 9; bar 4 9 9; thing FLYER 1 1 16; ";
        edge.no("both bars, the least", way, "hang 0 3 4", Due.HEAVY, 3);
        edge.no("the bar alone", way + "line 4 4 1 9", "hang 0 3 4", Due.HEAVY, 3);
        edge.no("the next bar alone", way + "line 3 4 1 9", "hang 0 3 4", Due.HEAVY, 4);
        edge.yes("neither", way + "line 3 4 1 9; line 4 4 1 9", "hang 0 3 4", 1);
        edge.no("bar 0", "bar 0 9 9; thing CLOTH 1 1 16", "hang 0 0 4", Due.HEAVY, 0);
        edge.no("bar 11", "bar 11 9 9; thing CLOTH 1 1 16", "hang 0 11 4", Due.HEAVY, 11);
        edge.yes("another bar that is not held", "bar 0 9 9; line 0 4 1 9; thing CLOTH 1 1 16; hang 0 0 4; cut 0; bar 1 9 9; line 1 4 1 9; thing CLOTH 1 1 8", "hang 1 1 4", 1);
    }

    private static void strike() {
        edge.promise(10);
        String way = Edge.strong(2, 16, 30) + "thing CLOTH 1 1 8; thing FLYER 1 1 8; ";
        edge.no("no thing was told", "", "strike 0", Due.BEYOND);
        edge.noEach("no such thing", way, "strike #", Due.BEYOND, MIN, -1, 2, 79, 80, MAX);
        edge.noEach("it does not hang", way, "strike #", Due.LOOSE, 0, 1);
        edge.no("it was struck", way + "hang 0 0 3; strike 0", "strike 0", Due.LOOSE);
        edge.yes("from the first place", way + "hang 0 0 0", "strike 0", 0, "at 0 0 = 0; of 0 3 = NONE; of 0 4 = NONE; told 3 = 0");
        edge.yes("from the last place", way + "hang 0 0 15", "strike 0", 15, "at 0 15 = 0; barOf 0 4 = 0");
        edge.yes("a FLYER, from both bars", way + "hang 1 0 7", "strike 1", 7, "at 0 7 = 0; at 1 7 = 0; barOf 0 6 = 0; barOf 1 6 = 1");
        edge.no("at height 1", way + "hang 0 0 3; cue 0 1 0 1; go 1", "strike 0", Due.HIGH);
        edge.no("at height 100", way + "hang 0 0 3; cue 0 5 0 20; go 20", "strike 0", Due.HIGH);
        edge.yes("at height 0 again", way + "hang 0 0 3; cue 0 1 0 1; cue 0 -1 1 1; go 2", "strike 0", 3);
        edge.no("a FLYER whose bars are high", way + "hang 1 0 3; cue 1 1 0 1; go 1", "strike 1", Due.HIGH);
        edge.yes("a neighbour that is high", way + "hang 0 0 3; cue 1 1 0 1; go 1", "strike 0", 3);
        String eighty = Edge.strong(1, 8, 8) + Edge.times(80, "thing CLOTH 1 1 8") + "hang 79 0 5";
        edge.yes("the last thing of 80", eighty, "strike 79", 5);
        edge.noEach("no such thing of 80", eighty, "strike #", Due.BEYOND, -1, 80);
        edge.yes("what stays need not be held", way + "thing CLOTH 1 1 8; hang 0 0 3; hang 2 0 4; cut 0; cut 1", "strike 0", 3, "barOf 0 7 = 0");
    }
}
