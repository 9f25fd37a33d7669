/** A loft with as much as there may be of everything: numbers just beyond all of it, and one more of each. */
public final class EdgesOfFullLoftTest {
    private static final int MIN = Integer.MIN_VALUE;
    private static final int MAX = Integer.MAX_VALUE;
    private static final Edge edge = new Edge();
    /** 12 bars of 16 places, 40 lines, 80 hot LAMPS, 60 kept acts; the first and the last bar are full. */
    private static final String FULL = Edge.times(12, "bar # 16 30") + "line 0 0 8 30000; line 0 15 8 30000; line 11 0 8 30000; "
            + "line 11 15 8 30000; " + Edge.times(12, "line 1 # 8 9; line 2 # 8 9; line 3 # 8 9")
            + Edge.times(80, "thing LAMP 15 40 8; heat # 1") + fill(0, 0) + fill(11, 16);
    /** 60 cues, more stops than are kept, 8 flags, 40 steps, 60 kept acts. */
    private static final String CUED = Edge.times(12, "bar # 16 30; brick # 2000") + Edge.times(60, "cue 11 5 # 1") + "go 60; " + Edge.times(8, "flag # 99")
            + Edge.times(40, "tell 3 11 -1 9 9");

    public static void main(String[] args) {
        barsBeyond();
        placesBeyond();
        linesBeyond();
        thingsBeyond();
        cuesBeyond();
        stepsBeyond();
        whatsBeyond();
        edge.end();
    }

    private static String fill(int bar, int firstThing) {
        StringBuilder all = new StringBuilder();
        for (int place = 0; place < 16; place++) {
            all.append("hang ").append(firstThing + place).append(' ').append(bar).append(' ').append(place).append("; ");
        }
        return all.toString();
    }

    private static void barsBeyond() {
        edge.promise(2);
        int[] none = {MIN, -1, 12, MAX};
        edge.noEach("bar", FULL, "bar # 16 30", Due.BEYOND, none);
        edge.noEach("strip", FULL, "strip #", Due.BEYOND, none);
        edge.noEach("line", FULL, "line # 0 1 1", Due.BEYOND, none);
        edge.noEach("hang", FULL, "hang 40 # 0", Due.BEYOND, none);
        edge.noEach("hook", FULL, "hook # 0 on", Due.BEYOND, none);
        edge.noEach("brick", FULL, "brick # 1", Due.BEYOND, none);
        edge.noEach("shift", FULL, "shift # 0 0 1", Due.BEYOND, none);
        edge.noEach("cue", FULL, "cue # 1 0 1", Due.BEYOND, none);
        edge.noEach("hush", FULL, "hush #", Due.BEYOND, none);
        edge.noneEach("at", FULL, "at # 0", none);
        edge.noneEach("even", FULL, "even #", none);
        for (int what = 0; what <= 8; what++) {
            edge.noneEach("barOf", FULL, "barOf # " + what, none);
        }
        edge.asked("load", FULL, "load -1 = 0.0; load 12 = 0.0; load 0 = 16.0; load 11 = 16.0");
    }

    private static void placesBeyond() {
        edge.promise(9);
        int[] none = {MIN, -1, 16, MAX};
        for (int bar : new int[] {0, 5, 11}) {
            edge.noEach("hang", FULL, "hang 40 " + bar + " #", Due.BEYOND, none);
            edge.noEach("hook", FULL, "hook " + bar + " # on", Due.BEYOND, none);
            edge.noneEach("at", FULL, "at " + bar + " #", none);
            edge.noEach("line", FULL, "line " + bar + " # 1 1", Due.BEYOND, none);
        }
        edge.no("a place of a full bar", FULL, "hang 40 0 0", Due.TAKEN);
        edge.no("a place of a full bar", FULL, "hang 40 11 15", Due.TAKEN);
        edge.no("no place between two full ones", FULL, "shift 0 0 1 15", Due.TAKEN);
        edge.yes("a full bar onto itself", FULL, "shift 11 0 0 16", 16);
        edge.no("the least place", FULL, "strip 11", Due.BURDENED, 0);
    }

    private static void linesBeyond() {
        edge.promise(4);
        int[] none = {MIN, -1, 40, MAX};
        edge.noEach("wear", FULL, "wear # 0 1", Due.BEYOND, none);
        edge.noEach("cut", FULL, "cut #", Due.BEYOND, none);
        edge.noneEach("share", FULL, "share #", none);
        edge.noneEach("strength", FULL, "strength #", none);
        edge.noEach("no such part", FULL, "wear 39 # 1", Due.BEYOND, MIN, -1, 8, MAX);
        edge.yes("the last part of the last line", FULL, "wear 39 7 9", 0, "strength 39 = 0; strength 38 = 9; of 0 0 = 2; of 0 1 = 15");
        edge.no("one more", FULL, "line 5 0 1 1", Due.MUCH);
    }

    private static void thingsBeyond() {
        edge.promise(7);
        int[] none = {MIN, -1, 80, MAX};
        edge.noEach("heat", FULL, "heat # 1", Due.BEYOND, none);
        edge.noEach("hang", FULL, "hang # 5 0", Due.BEYOND, none);
        edge.noEach("strike", FULL, "strike #", Due.BEYOND, none);
        for (int what = 0; what <= 6; what++) {
            edge.noneEach("of", FULL, "of # " + what, none);
        }
        edge.no("one more", FULL, "thing LAMP 1 1 1", Due.MUCH);
        edge.yes("the last one", FULL, "heat 79 80000", 1, "of 79 6 = 1; told 2 = 80; told 3 = 32");
        edge.asked("all of them", FULL, "told 0 = 12; told 1 = 40; told 2 = 80; told 3 = 32; told 6 = 60; barOf 0 4 = 16; barOf 11 4 = 16");
    }

    private static void cuesBeyond() {
        edge.promise(16);
        edge.asked("all of them", CUED, "told 4 = 60; told 5 = 60; told 6 = 60; told 7 = 40; told 9 = 60; barOf 11 2 = 0");
        edge.no("one more", CUED, "cue 11 1 0 1", Due.MUCH);
        for (int what = 0; what <= 4; what++) {
            edge.noneEach("cueOf", CUED, "cueOf # " + what, MIN, -1, 60, MAX);
            edge.noneEach("stop", CUED, "stop # " + what, MIN, -1, 40, 41, 59, 60, MAX);
        }
        edge.noEach("flag", CUED, "flag # 1", Due.BEYOND, MIN, -1, 8, MAX);
        edge.noEach("wave", CUED, "wave #", Due.BEYOND, MIN, -1, 8, MAX);
        edge.yes("the last flag", CUED, "wave 7", 99);
    }

    private static void stepsBeyond() {
        edge.promise(21);
        for (int what = 0; what <= 4; what++) {
            edge.noEach("forge", CUED, "forge # " + what + " 1", Due.BEYOND, MIN, -1, 40, 41, MAX);
        }
        edge.no("one more", CUED, "tell 1 0 0 0 0", Due.MUCH);
        edge.judged("none can be done", CUED, 0, Due.OTHER, 1999);
    }

    private static void whatsBeyond() {
        edge.promise(34);
        edge.noneEach("of", FULL, "of 79 #", MIN, -1, 7, 8, MAX);
        edge.noneEach("barOf", FULL, "barOf 11 #", MIN, -1, 9, 10, MAX);
        edge.noneEach("told", CUED, "told #", MIN, -1, 10, 11, MAX);
        edge.noneEach("status", CUED, "status #", MIN, -1, 3, 4, MAX);
        edge.noneEach("stop", CUED, "stop 39 #", MIN, -1, 5, 6, MAX);
        edge.noneEach("cueOf", CUED, "cueOf 59 #", MIN, -1, 5, 6, MAX);
        edge.noEach("forge", CUED, "forge 39 # 1", Due.BEYOND, MIN, -1, 5, 6, MAX);
    }
}
