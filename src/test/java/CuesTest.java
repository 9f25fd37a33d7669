/** Cues, ticks and stops: promises 16 to 18, 31 to 33. */
public final class CuesTest {
    private static final int MIN = Integer.MIN_VALUE;
    private static final int MAX = Integer.MAX_VALUE;
    private static final Due due = new Due();

    public static void main(String[] args) {
        cueFindings();
        cueMuch();
        hush();
        goFindings();
        whichCueDecides();
        groupMovesTogether();
        stopsAtEnds();
        stopsByBalance();
        otherBarsDoNotMatter();
        stopsByHold();
        stopsByClash();
        orderOfReasons();
        orderOfGroups();
        clashOrder();
        stopEndsOnlyWhatRuns();
        least();
        stopsKept();
        cueStates();
        due.end();
    }

    private static void stop(RiggingLoft x, int k, int time, int reason, int bar, int neighbour, int place) {
        int[] want = {time, reason, bar, neighbour, place};
        for (int what = 0; what < 5; what++) {
            due.is("stop(" + k + ", " + what + ")", x.stop(k, what), want[what]);
        }
    }

    private static void cueFindings() {
        due.promise(16);
        RiggingLoft x = new RiggingLoft();
        due.no(x, "cue(-1, ..)", x.cue(-1, 1, 0, 1), Due.BEYOND);
        due.no(x, "cue(12, ..)", x.cue(12, 0, 0, 1), Due.BEYOND);
        due.no(x, "not rigged", x.cue(0, 0, 0, 1), Due.MISSING);
        x.bar(0, 4, 4);
        due.no(x, "step 0", x.cue(0, 0, 0, 1), Due.NUMBER);
        due.no(x, "step 6", x.cue(0, 6, 0, 1), Due.NUMBER);
        due.no(x, "step -6", x.cue(0, -6, 0, 1), Due.NUMBER);
        due.no(x, "step MIN", x.cue(0, MIN, 0, 1), Due.NUMBER);
        due.no(x, "tick -1", x.cue(0, 1, -1, 1), Due.NUMBER);
        due.no(x, "tick 1000001", x.cue(0, 1, 1000001, 1), Due.NUMBER);
        due.no(x, "ticks 0", x.cue(0, 1, 0, 0), Due.NUMBER);
        due.no(x, "ticks 201", x.cue(0, 1, 0, 201), Due.NUMBER);
        due.no(x, "ticks MAX", x.cue(0, 1, 0, MAX), Due.NUMBER);
        due.done(x, "cue(0, -5, 1000000, 200)", x.cue(0, -5, 1000000, 200), 0);
        due.done(x, "cue(0, 5, 0, 1)", x.cue(0, 5, 0, 1), 1);
        due.is("told(4)", x.told(4), 2);
    }

    private static void cueMuch() {
        RiggingLoft x = new RiggingLoft();
        x.bar(0, 4, 4);
        for (int i = 0; i < 60; i++) {
            due.is("a cue more", x.cue(0, 1, i, 1), i);
        }
        due.no(x, "NUMBER ahead of MUCH", x.cue(0, 0, 0, 1), Due.NUMBER);
        due.no(x, "the 61st cue", x.cue(0, 1, 0, 1), Due.MUCH);
        due.is("go(100)", x.go(100), 60);
    }

    private static void hush() {
        due.promise(17);
        RiggingLoft x = new RiggingLoft();
        due.no(x, "hush(-1)", x.hush(-1), Due.BEYOND);
        due.no(x, "hush(12)", x.hush(12), Due.BEYOND);
        due.no(x, "not rigged", x.hush(0), Due.MISSING);
        x.bar(0, 4, 4);
        x.bar(1, 4, 4);
        due.done(x, "none", x.hush(0), 0);
        x.cue(0, 1, 0, 2);
        x.cue(0, 1, 1, 2);
        x.cue(0, 1, 500, 2);
        x.cue(1, 1, 0, 50);
        x.go(2);
        due.done(x, "one runs, one is ahead, one is over", x.hush(0), 2);
        due.is("the first is over", x.cueOf(0, 4), 2);
        due.is("the second was ended", x.cueOf(1, 4), 3);
        due.is("the third was ended", x.cueOf(2, 4), 3);
        due.is("another bar's runs on", x.cueOf(3, 4), 1);
        due.done(x, "none any more", x.hush(0), 0);
        due.is("bar 1 goes on alone", x.go(1), 1);
    }

    private static void goFindings() {
        due.promise(18);
        RiggingLoft x = new RiggingLoft();
        due.no(x, "go(0)", x.go(0), Due.NUMBER);
        due.no(x, "go(-1)", x.go(-1), Due.NUMBER);
        due.no(x, "go(101)", x.go(101), Due.NUMBER);
        due.no(x, "go(MIN)", x.go(MIN), Due.NUMBER);
        due.done(x, "go(100) with nothing", x.go(100), 0);
        due.is("the TIME", x.told(9), 100);
        x.bar(5, 4, 4);
        x.cue(5, 3, 102, 2);
        due.done(x, "the tick is ahead", x.go(2), 0);
        due.done(x, "two ticks of 3 units, then none", x.go(10), 6);
        due.is("the height", x.barOf(5, 2), 6);
        x.cue(5, -2, 100, 15);
        due.done(x, "three ticks are left of a cue told late", x.go(10), 6);
        due.is("the height", x.barOf(5, 2), 0);
    }

    private static void whichCueDecides() {
        RiggingLoft x = new RiggingLoft();
        x.bar(0, 4, 4);
        x.cue(0, 3, 1, 1);
        x.cue(0, 1, 0, 3);
        x.cue(0, 5, 0, 3);
        due.is("cue 1, as cue 0 does not run yet", x.go(1), 1);
        due.is("cue 0", x.go(1), 3);
        due.is("cue 1 again", x.go(1), 1);
        due.is("none any more", x.go(1), 0);
        due.is("the height", x.barOf(0, 2), 5);
    }

    private static void groupMovesTogether() {
        RiggingLoft x = Due.strong(4, 6, 30);
        x.thing(Due.FLYER, 1, 5, 16);
        x.thing(Due.FLYER, 1, 5, 16);
        x.hang(0, 1, 2);
        x.hang(1, 2, 3);
        x.cue(3, 2, 0, 1);
        x.cue(2, -1, 0, 1);
        x.cue(0, 4, 0, 1);
        due.is("bar 0 by 4; the group of 1 to 3 by the cue of bar 2, which stops", x.go(1), 4);
        stop(x, 0, 0, 1, 1, Due.NONE, Due.NONE);
        due.is("all its running cues are ended", x.cueOf(0, 4), 3);
        x.cue(3, 2, 1, 1);
        due.is("a group's unit counts once", x.go(1), 2);
        for (int bar = 1; bar <= 3; bar++) {
            due.is("the height", x.barOf(bar, 2), 2);
            due.is("the group", x.barOf(bar, 6), 1);
        }
        due.is("bar 0 is a group by itself", x.barOf(0, 6), 0);
        x.cue(3, -2, 2, 1);
        x.cue(1, -1, 2, 1);
        due.is("the least bar's cue decides", x.go(1), 1);
    }

    private static void stopsAtEnds() {
        RiggingLoft x = new RiggingLoft();
        x.bar(7, 4, 4);
        x.cue(7, 3, 0, 40);
        due.is("up to 100", x.go(50), 100);
        stop(x, 0, 33, 1, 7, Due.NONE, Due.NONE);
        due.is("one stop", x.told(5), 1);
        due.is("the height", x.barOf(7, 2), 100);
        due.is("the cue was ended", x.cueOf(0, 4), 3);
        x.cue(7, -5, 50, 200);
        due.is("down to 0", x.go(30), 100);
        stop(x, 0, 70, 1, 7, Due.NONE, Due.NONE);
        stop(x, 1, 33, 1, 7, Due.NONE, Due.NONE);
        due.is("units in all", x.told(8), 200);
    }

    private static void stopsByBalance() {
        RiggingLoft x = Due.strong(2, 6, 30);
        x.thing(Due.CLOTH, 1, 5, 8000);
        x.hang(0, 1, 2);
        x.cue(1, 1, 0, 1);
        due.is("a load of 1000 without bricks", x.go(1), 0);
        stop(x, 0, 0, 2, 1, Due.NONE, Due.NONE);
        x.brick(1, 2);
        x.cue(1, 1, 1, 1);
        due.is("a load of 1000 with 2 bricks", x.go(1), 0);
        stop(x, 0, 1, 2, 1, Due.NONE, Due.NONE);
        x.brick(1, -1);
        x.cue(1, 1, 2, 1);
        due.is("a load of 1000 with 1 brick", x.go(1), 1);
    }

    private static void otherBarsDoNotMatter() {
        RiggingLoft x = Due.strong(4, 6, 30);
        x.thing(Due.SET, 1, 5, 8);
        x.brick(1, 5);
        x.brick(3, 5);
        x.cue(2, 1, 0, 9);
        due.is("bars 1 and 3 are not in balance", x.go(1), 1);
        x.brick(1, -5);
        x.brick(3, -5);
        x.thing(Due.SET, 1, 5, 8);
        x.hang(0, 1, 2);
        x.hang(1, 3, 2);
        x.cut(2);
        x.cut(6);
        due.is("bar 1 is not held", x.barOf(1, 7), 0);
        due.is("bar 3 is not held", x.barOf(3, 7), 0);
        due.is("bar 2 goes on", x.go(1), 1);
    }

    private static void stopsByHold() {
        RiggingLoft x = Due.strong(1, 6, 30);
        x.thing(Due.CLOTH, 1, 5, 7999);
        x.hang(0, 0, 2);
        x.cue(0, 1, 0, 3);
        due.is("held", x.go(1), 1);
        x.cut(0);
        due.is("on one line beside it", x.go(1), 0);
        stop(x, 0, 1, 3, 0, Due.NONE, Due.NONE);
        due.is("the cue was ended", x.cueOf(0, 4), 3);
        x.cut(1);
        x.line(0, 2, 1, 998);
        x.cue(0, 1, 2, 1);
        due.is("999 grams on a line of 998", x.go(1), 0);
        stop(x, 0, 2, 3, 0, Due.NONE, Due.NONE);
        x.cut(2);
        x.line(0, 2, 1, 999);
        x.cue(0, 1, 3, 1);
        due.is("999 grams on a line of 999", x.go(1), 1);
    }

    private static void stopsByClash() {
        RiggingLoft x = Due.strong(3, 6, 5);
        x.thing(Due.SET, 3, 10, 8);
        x.thing(Due.SET, 3, 10, 8);
        x.hang(0, 0, 3);
        x.cue(0, 5, 0, 2);
        due.is("bar 0 goes up by 10", x.go(2), 10);
        due.done(x, "below it there is room", x.hang(1, 1, 3), 1);
        x.cue(0, -3, 2, 2);
        due.is("down into it", x.go(1), 0);
        stop(x, 0, 2, 4, 0, 1, 3);
        x.cue(1, 2, 3, 1);
        due.is("up into it", x.go(1), 0);
        stop(x, 0, 3, 4, 1, 0, 3);
        x.cue(0, 2, 4, 1);
        x.cue(1, 5, 4, 1);
        due.is("bar 0 first by 2, then bar 1 by 2 and no more", x.go(1), 4);
        stop(x, 0, 4, 4, 1, 0, 3);
        due.is("bar 0", x.barOf(0, 2), 12);
        due.is("bar 1", x.barOf(1, 2), 2);
        x.cue(0, 1, 5, 1);
        x.cue(1, 1, 5, 1);
        due.is("one behind the other", x.go(1), 2);
        x.cue(0, 1, 6, 1);
        x.go(1);
        x.cue(0, -5, 7, 1);
        due.is("down until the ends meet", x.go(1), 1);
        stop(x, 0, 7, 4, 0, 1, 3);
        due.is("bar 0", x.barOf(0, 2), 13);
    }

    private static void orderOfReasons() {
        RiggingLoft x = Due.strong(2, 6, 30);
        x.thing(Due.FLYER, 1, 5, 32000);
        x.hang(0, 0, 2);
        x.cut(0);
        x.cue(1, -1, 0, 1);
        x.go(1);
        stop(x, 0, 0, 1, 0, Due.NONE, Due.NONE);
        x.cue(1, 1, 1, 1);
        x.go(1);
        stop(x, 0, 1, 2, 0, Due.NONE, Due.NONE);
        x.brick(0, 2);
        x.cue(1, 1, 2, 1);
        x.go(1);
        stop(x, 0, 2, 2, 1, Due.NONE, Due.NONE);
        x.brick(1, 2);
        x.cue(1, 1, 3, 1);
        x.go(1);
        stop(x, 0, 3, 3, 0, Due.NONE, Due.NONE);
        x.line(0, 1, 1, 30000);
        x.cut(2);
        x.cue(1, 1, 4, 1);
        x.go(1);
        stop(x, 0, 4, 3, 1, Due.NONE, Due.NONE);
        x.line(1, 1, 1, 30000);
        x.cue(1, 1, 5, 1);
        due.is("nothing is in the way", x.go(1), 1);
    }

    private static void orderOfGroups() {
        RiggingLoft x = new RiggingLoft();
        x.bar(9, 4, 4);
        x.bar(2, 4, 4);
        x.cue(9, -1, 0, 1);
        x.cue(2, -1, 0, 1);
        x.go(1);
        stop(x, 1, 0, 1, 2, Due.NONE, Due.NONE);
        stop(x, 0, 0, 1, 9, Due.NONE, Due.NONE);
    }

    /** By bars, then by places, then below in number and above. */
    private static void clashOrder() {
        RiggingLoft x = Due.strong(4, 6, 5);
        x.thing(Due.FLYER, 2, 1, 16);
        for (int i = 0; i < 6; i++) {
            x.thing(Due.SET, 3, 1, 8);
        }
        x.hang(0, 1, 5);
        x.hang(1, 1, 2);
        x.hang(2, 1, 3);
        x.hang(3, 2, 1);
        x.cue(1, 1, 0, 1);
        x.go(1);
        x.hang(4, 0, 3);
        x.hang(5, 3, 1);
        x.cue(1, -1, 1, 1);
        x.go(1);
        stop(x, 0, 1, 4, 1, 0, 3);
        x.hang(6, 0, 2);
        x.cue(1, -1, 2, 1);
        x.go(1);
        stop(x, 0, 2, 4, 1, 0, 2);
        x.strike(4);
        x.strike(6);
        x.cue(1, -1, 3, 1);
        x.go(1);
        stop(x, 0, 3, 4, 2, 3, 1);
        RiggingLoft y = Due.strong(3, 6, 5);
        y.thing(Due.SET, 3, 1, 8);
        y.thing(Due.SET, 3, 1, 8);
        y.thing(Due.SET, 3, 1, 8);
        y.hang(0, 1, 3);
        y.cue(1, 1, 0, 1);
        y.go(1);
        y.hang(1, 2, 3);
        y.hang(2, 0, 3);
        y.cue(1, -1, 1, 1);
        y.go(1);
        stop(y, 0, 1, 4, 1, 0, 3);
        y.strike(2);
        y.cue(1, -1, 2, 1);
        y.go(1);
        stop(y, 0, 2, 4, 1, 2, 3);
    }

    private static void stopEndsOnlyWhatRuns() {
        RiggingLoft x = new RiggingLoft();
        x.bar(0, 4, 4);
        x.bar(1, 4, 4);
        x.cue(0, -1, 0, 5);
        x.cue(0, 1, 0, 5);
        x.cue(0, 1, 1, 5);
        x.cue(1, 1, 0, 5);
        x.go(1);
        due.is("the one that stopped", x.cueOf(0, 4), 3);
        due.is("the other one that ran", x.cueOf(1, 4), 3);
        due.is("the one that was ahead", x.cueOf(2, 4), 1);
        due.is("another group's", x.cueOf(3, 4), 1);
    }

    private static void least() {
        due.promise(31);
        RiggingLoft x = Due.strong(5, 6, 30);
        x.thing(Due.FLYER, 1, 5, 32000);
        x.thing(Due.CLOTH, 1, 5, 20000);
        x.hang(0, 1, 2);
        x.hang(1, 4, 2);
        x.brick(0, 9);
        due.is("no cue", x.least(), 0);
        x.cue(2, 1, 50, 2);
        due.is("the group of bars 1 and 2", x.least(), 4);
        x.cue(0, 1, 0, 1);
        due.is("bar 0 too, of which 9 are to be taken", x.least(), 13);
        x.cue(4, 1, 0, 1);
        due.is("bar 4 too, which has 2500", x.least(), 15);
        x.hush(4);
        due.is("an ended cue counts no more", x.least(), 13);
        x.brick(1, 5);
        due.is("3 to be taken, 2 to be put, 9 to be taken", x.least(), 14);
        x.go(1);
        due.is("the stop ended bar 0's cue", x.least(), 5);
        x.go(50);
        due.is("the other cue stops too", x.least(), 0);
    }

    private static void stopsKept() {
        due.promise(32);
        RiggingLoft x = new RiggingLoft();
        due.is("none yet", x.stop(0, 0), Due.NONE);
        x.bar(0, 4, 4);
        for (int i = 0; i < 45; i++) {
            x.cue(0, -1, i, 1);
        }
        x.go(45);
        due.is("stops in all", x.told(5), 45);
        due.is("stop(0, 0)", x.stop(0, 0), 44);
        due.is("stop(39, 0)", x.stop(39, 0), 5);
        due.is("stop(39, 2)", x.stop(39, 2), 0);
        due.is("stop(40, 0)", x.stop(40, 0), Due.NONE);
        due.is("stop(-1, 0)", x.stop(-1, 0), Due.NONE);
        due.is("stop(MAX, 0)", x.stop(MAX, 0), Due.NONE);
        due.is("stop(MIN, 0)", x.stop(MIN, 0), Due.NONE);
        due.is("stop(0, 5)", x.stop(0, 5), Due.NONE);
        due.is("stop(0, -1)", x.stop(0, -1), Due.NONE);
        due.is("stop(0, 3)", x.stop(0, 3), Due.NONE);
        x.undo();
        due.is("stops in all, undone", x.told(5), 0);
        due.is("stop(0, 0), undone", x.stop(0, 0), Due.NONE);
    }

    private static void cueStates() {
        due.promise(33);
        RiggingLoft x = new RiggingLoft();
        due.is("no cue", x.cueOf(0, 0), Due.NONE);
        x.bar(6, 4, 4);
        x.bar(7, 4, 4);
        x.cue(6, -4, 2, 3);
        x.cue(7, 4, 1, 3);
        due.is("cueOf(0, 0)", x.cueOf(0, 0), 6);
        due.is("cueOf(0, 1)", x.cueOf(0, 1), -4);
        due.is("cueOf(0, 2)", x.cueOf(0, 2), 2);
        due.is("cueOf(0, 3)", x.cueOf(0, 3), 3);
        due.is("cueOf(0, 5)", x.cueOf(0, 5), Due.NONE);
        due.is("cueOf(0, -1)", x.cueOf(0, -1), Due.NONE);
        due.is("cueOf(2, 0)", x.cueOf(2, 0), Due.NONE);
        due.is("cueOf(-1, 0)", x.cueOf(-1, 0), Due.NONE);
        due.is("cueOf(60, 0)", x.cueOf(60, 0), Due.NONE);
        due.is("ahead", x.cueOf(1, 4), 0);
        x.go(1);
        due.is("runs at its tick", x.cueOf(1, 4), 1);
        due.is("one tick ahead", x.cueOf(0, 4), 0);
        x.go(2);
        due.is("runs at its last tick", x.cueOf(1, 4), 1);
        x.go(1);
        due.is("over", x.cueOf(1, 4), 2);
        due.is("ended by a stop", x.cueOf(0, 4), 3);
        x.cue(7, 1, 90, 1);
        x.hush(7);
        due.is("ended ahead of its tick", x.cueOf(2, 4), 3);
        due.is("over, and so not ended", x.cueOf(1, 4), 2);
        x.go(100);
        due.is("ended is ahead of over", x.cueOf(2, 4), 3);
    }
}
