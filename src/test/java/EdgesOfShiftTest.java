/** The edges of promise 13. */
public final class EdgesOfShiftTest {
    private static final int MIN = Integer.MIN_VALUE;
    private static final int MAX = Integer.MAX_VALUE;
    private static final Edge edge = new Edge();

    public static void main(String[] args) {
        edge.promise(13);
        bars();
        copy();
        copyAtTheEndsOfInt();
        takenFrom();
        takenTo();
        carries();
        clash();
        hot();
        heavy();
        order();
        edge.end();
    }

    private static void bars() {
        String way = Edge.strong(1, 8, 8) + "bar 11 8 8; ";
        edge.noEach("no such bar", way, "shift # 0 0 0", Due.BEYOND, MIN, -1, 12, MAX);
        edge.no("not rigged", way, "shift 1 0 0 0", Due.MISSING);
        edge.yes("the first bar", way, "shift 0 0 0 0", 0);
        edge.yes("the last bar", way, "shift 11 0 0 0", 0);
        edge.no("at height 1", way + "cue 0 1 0 1; go 1", "shift 0 0 0 0", Due.HIGH);
        edge.no("at height 100", way + "cue 0 5 0 20; go 20", "shift 0 0 0 0", Due.HIGH);
        edge.yes("at height 0 again", way + "cue 0 1 0 1; cue 0 -1 1 1; go 2", "shift 0 0 0 0", 0);
        edge.yes("a neighbour that is high", way + "bar 1 8 8; cue 1 1 0 1; go 1", "shift 0 0 0 0", 0);
    }

    private static void copy() {
        String way = Edge.strong(1, 8, 8) + "thing CLOTH 1 1 8; hang 0 0 7; ";
        edge.noEach("n below 0", way, "shift 0 0 0 #", Due.COPY, MIN, -1);
        edge.noEach("from below 0", way, "shift 0 # 0 0", Due.COPY, MIN, -1);
        edge.noEach("to below 0", way, "shift 0 0 # 0", Due.COPY, MIN, -1);
        edge.noEach("from below 0, and n above", way, "shift 0 # 0 1", Due.COPY, MIN, -1);
        edge.noEach("to below 0, and n above", way, "shift 0 0 # 1", Due.COPY, MIN, -1);
        edge.yes("from 7 and 1 are all 8", way, "shift 0 7 0 1", 1, "at 0 7 = 0; at 0 0 = 2; of 0 4 = 0");
        edge.no("from 8 and 1 are 9", way, "shift 0 8 0 1", Due.COPY);
        edge.no("from 7 and 2 are 9", way, "shift 0 7 0 2", Due.COPY);
        edge.yes("to 7 and 1 are all 8", Edge.strong(1, 8, 8) + "thing CLOTH 1 1 8; hang 0 0 0", "shift 0 0 7 1", 1, "at 0 0 = 0; at 0 7 = 2");
        edge.no("to 8 and 1 are 9", way, "shift 0 0 8 1", Due.COPY);
        edge.no("to 7 and 2 are 9", way, "shift 0 0 7 2", Due.COPY);
        edge.yes("all 8 onto themselves", way, "shift 0 0 0 8", 1, "at 0 7 = 2; of 0 4 = 7");
        edge.no("9 of 8", way, "shift 0 0 0 9", Due.COPY);
        edge.yes("none, from behind the last", way, "shift 0 8 0 0", 0, "at 0 7 = 2");
        edge.yes("none, to behind the last", way, "shift 0 0 8 0", 0, "at 0 7 = 2");
        edge.no("none, from further behind", way, "shift 0 9 0 0", Due.COPY);
        edge.no("none, to further behind", way, "shift 0 0 9 0", Due.COPY);
        String most = Edge.strong(1, 16, 8);
        edge.yes("16 of 16", most, "shift 0 0 0 16", 0);
        edge.no("17 of 16", most, "shift 0 0 0 17", Due.COPY);
        edge.yes("1 of 16, the last", most, "shift 0 15 15 1", 0);
        edge.no("1 of 16, behind the last", most, "shift 0 16 0 1", Due.COPY);
        edge.no("1 of 16, to behind the last", most, "shift 0 0 16 1", Due.COPY);
    }

    private static void copyAtTheEndsOfInt() {
        String way = Edge.strong(1, 8, 8);
        int[] ends = {MIN, MIN + 1, MIN + 8, MAX - 8, MAX - 1, MAX};
        for (int end : ends) {
            edge.no("from", way, "shift 0 " + end + " 0 1", Due.COPY);
            edge.no("to", way, "shift 0 0 " + end + " 1", Due.COPY);
            edge.no("n", way, "shift 0 0 0 " + end, Due.COPY);
            edge.no("from, none", way, "shift 0 " + end + " 0 0", Due.COPY);
            edge.no("to, none", way, "shift 0 0 " + end + " 0", Due.COPY);
            edge.no("n behind the first", way, "shift 0 1 1 " + end, Due.COPY);
            edge.no("n behind the last", way, "shift 0 8 8 " + end, Due.COPY);
            for (int other : ends) {
                edge.no("from and n", way, "shift 0 " + end + " 0 " + other, Due.COPY);
                edge.no("to and n", way, "shift 0 0 " + end + " " + other, Due.COPY);
                edge.no("all", way, "shift 0 " + end + " " + end + " " + other, Due.COPY);
            }
        }
    }

    private static void takenFrom() {
        String way = Edge.strong(2, 8, 30) + "thing CLOTH 1 1 8; thing FLYER 1 1 8; ";
        String hook = way + "hook 0 3 on; ";
        edge.no("a hook alone", hook, "shift 0 3 5 1", Due.TAKEN);
        edge.no("a hook, first of two", hook, "shift 0 3 5 2", Due.TAKEN);
        edge.no("a hook, last of two", hook, "shift 0 2 5 2", Due.TAKEN);
        edge.no("a hook onto itself", hook, "shift 0 3 3 1", Due.TAKEN);
        edge.yes("just ahead of the hook", hook, "shift 0 1 5 2", 0, "at 0 3 = 1");
        edge.yes("just behind the hook", hook, "shift 0 4 6 2", 0, "at 0 3 = 1");
        edge.yes("none, at the hook", hook, "shift 0 3 3 0", 0, "at 0 3 = 1");
        String flyer = way + "hang 1 0 3; ";
        for (int bar = 0; bar < 2; bar++) {
            edge.no("a FLYER alone", flyer, "shift " + bar + " 3 5 1", Due.TAKEN);
            edge.no("a FLYER, first of two", flyer, "shift " + bar + " 3 5 2", Due.TAKEN);
            edge.no("a FLYER, last of two", flyer, "shift " + bar + " 2 5 2", Due.TAKEN);
            edge.no("a FLYER onto itself", flyer, "shift " + bar + " 3 3 1", Due.TAKEN);
            edge.yes("just ahead of the FLYER", flyer, "shift " + bar + " 1 5 2", 0);
            edge.yes("just behind the FLYER", flyer, "shift " + bar + " 4 6 2", 0);
        }
        edge.no("a FLYER that is thing 0", Edge.strong(2, 8, 30) + "thing FLYER 1 1 8; hang 0 0 3", "shift 0 3 5 1", Due.TAKEN);
        String[] kinds = {"CLOTH", "BORDER", "LAMP", "SET"};
        for (String kind : kinds) {
            edge.yes("a " + kind + " is carried", Edge.strong(1, 8, 8) + "thing " + kind + " 1 1 8; hang 0 0 3", "shift 0 3 5 1", 1, "at 0 5 = 2");
        }
    }

    private static void takenTo() {
        String way = Edge.strong(2, 8, 30) + "thing CLOTH 1 1 8; thing FLYER 1 1 8; hang 0 0 1; ";
        String[] takers = {"hook 0 5 on", "thing SET 1 1 8; hang 2 0 5", "hang 1 0 5"};
        for (String taker : takers) {
            edge.no("the only place", way + taker, "shift 0 1 5 1", Due.TAKEN);
            edge.no("the first of two", way + taker, "shift 0 1 5 2", Due.TAKEN);
            edge.no("the last of two", way + taker, "shift 0 1 4 2", Due.TAKEN);
            edge.no("for nothing too", way + taker, "shift 0 2 5 1", Due.TAKEN);
            edge.yes("the place ahead of it", way + taker, "shift 0 1 3 2", 1);
            edge.yes("the place behind it", way + taker, "shift 0 1 6 2", 1);
            edge.yes("none, there", way + taker, "shift 0 1 5 0", 0);
        }
        String two = Edge.strong(1, 8, 30) + "thing CLOTH 1 1 8; thing CLOTH 1 1 8; ";
        edge.no("upwards, onto what is just behind those carried", two + "hang 0 0 2; hang 1 0 4", "shift 0 2 3 2", Due.TAKEN);
        edge.yes("upwards, onto places carried from", two + "hang 0 0 2; hang 1 0 3", "shift 0 2 3 2", 2, "at 0 2 = 0; at 0 3 = 2; at 0 4 = 3");
        edge.no("downwards, onto what is just ahead of those carried", two + "hang 0 0 2; hang 1 0 3", "shift 0 3 2 2", Due.TAKEN);
        edge.yes("downwards, onto places carried from", two + "hang 0 0 2; hang 1 0 3", "shift 0 2 1 2", 2, "at 0 1 = 2; at 0 2 = 3; at 0 3 = 0");
    }

    private static void carries() {
        String way = Edge.strong(1, 16, 30) + Edge.times(16, "thing CLOTH 1 1 #");
        edge.yes("a full bar onto itself", way + Edge.times(16, "hang # 0 #"), "shift 0 0 0 16", 16,
                "at 0 0 = 2; at 0 15 = 17; of 15 4 = 15");
        edge.yes("15 up by one", way + Edge.times(15, "hang # 0 #"), "shift 0 0 1 15", 15,
                "at 0 0 = 0; at 0 1 = 2; at 0 15 = 16; of 0 4 = 1; of 14 4 = 15");
        edge.yes("15 down by one", way + Edge.from(1, 16, "hang # 0 #"), "shift 0 1 0 15", 15,
                "at 0 15 = 0; at 0 0 = 3; at 0 14 = 17; of 1 4 = 0; of 15 4 = 14");
        edge.yes("8 into the other half", way + Edge.times(8, "hang # 0 #"), "shift 0 0 8 8", 8,
                "at 0 7 = 0; at 0 8 = 2; at 0 15 = 9; barOf 0 4 = 8");
        edge.yes("with gaps, in its order", way + "hang 5 0 2; hang 3 0 4", "shift 0 1 3 5", 2,
                "at 0 2 = 0; at 0 3 = 0; at 0 4 = 7; at 0 5 = 0; at 0 6 = 5; at 0 7 = 0");
        edge.yes("nothing for nothing", way + "hang 5 0 2", "shift 0 3 8 4", 0, "at 0 2 = 7; of 5 4 = 2");
        edge.yes("none", way + "hang 5 0 2", "shift 0 2 8 0", 0, "at 0 2 = 7");
        edge.yes("few behind many", way + Edge.times(5, "hang # 0 #") + "shift 0 0 8 5", "shift 0 8 0 1", 1,
                "at 0 0 = 2; at 0 1 = 0; at 0 2 = 0; at 0 8 = 0; at 0 9 = 3; at 0 12 = 6");
        edge.yes("what was not carried stays", way + "hang 5 0 2; hang 6 0 4", "shift 0 2 9 2", 1, "at 0 9 = 7; at 0 4 = 8; of 6 4 = 4");
    }

    private static void clash() {
        String way = Edge.strong(3, 8, 6) + Edge.times(5, "thing SET 3 5 8") + "hang 3 0 5; hang 2 2 6; hang 4 1 1; ";
        edge.no("with the bar below", way, "shift 1 1 5 1", Due.CLASH, 3);
        edge.no("with the bar above", way, "shift 1 1 6 1", Due.CLASH, 2);
        edge.yes("between them", way, "shift 1 1 4 1", 1);
        edge.yes("beyond them", way, "shift 1 1 7 1", 1);
        edge.no("the least of two things", way + "hang 1 1 2", "shift 1 1 5 2", Due.CLASH, 2);
        edge.no("in the first of the places alone", way + "hang 1 1 0", "shift 1 0 5 1", Due.CLASH, 3);
        edge.no("in the last of the places alone", way, "shift 1 0 4 2", Due.CLASH, 3);
        edge.yes("nothing does not clash", way, "shift 1 2 5 2", 0);
        edge.yes("what was carried away does not clash", way + "shift 1 1 4 1", "shift 1 4 0 1", 1);
        String soft = Edge.strong(2, 8, 6) + "thing CLOTH 3 5 8; thing CLOTH 3 5 8; thing CLOTH 4 5 8; hang 0 0 5; ";
        edge.yes("CLOTHS, just the gap", soft + "hang 1 1 1", "shift 1 1 5 1", 1);
        edge.no("CLOTHS, above the gap", soft + "hang 2 1 1", "shift 1 1 5 1", Due.CLASH, 0);
        String high = Edge.strong(2, 8, 6) + "thing SET 3 5 8; thing SET 3 5 8; hang 0 0 5; hang 1 1 1; ";
        edge.no("a neighbour's lower end at -1", high + "cue 0 1 0 4; go 4", "shift 1 1 5 1", Due.CLASH, 0);
        edge.yes("a neighbour's lower end at 0", high + "cue 0 1 0 5; go 5", "shift 1 1 5 1", 1);
    }

    private static void hot() {
        String way = Edge.strong(1, 16, 6) + "thing LAMP 1 1 8; heat 0 1; thing CLOTH 1 1 8; thing BORDER 1 1 8; thing SET 1 1 8; hang 0 0 8; ";
        edge.no("a CLOTH to 2 ahead of it", way + "hang 1 0 0", "shift 0 0 6 1", Due.HOT, 1);
        edge.yes("a CLOTH to 3 ahead of it", way + "hang 1 0 0", "shift 0 0 5 1", 1);
        edge.no("a BORDER to 2 behind it", way + "hang 2 0 0", "shift 0 0 10 1", Due.HOT, 2);
        edge.yes("a BORDER to 3 behind it", way + "hang 2 0 0", "shift 0 0 11 1", 1);
        edge.yes("a SET beside it", way + "hang 3 0 0", "shift 0 0 9 1", 1);
        edge.no("the LAMP to 2 from one that stays", way + "hang 1 0 0", "shift 0 8 2 1", Due.HOT, 1);
        edge.yes("the LAMP to 3 from one that stays", way + "hang 1 0 0", "shift 0 8 3 1", 1);
        edge.no("the least of two", way + "hang 2 0 0; hang 1 0 4", "shift 0 8 2 1", Due.HOT, 1);
        edge.no("the least of two, the other way round", way + "hang 1 0 0; hang 2 0 4", "shift 0 8 2 1", Due.HOT, 1);
        edge.yes("both together stay as far apart", way + "hang 1 0 5", "shift 0 5 0 4", 2);
        edge.yes("a LAMP that is not hot", way + "heat 0 0; hang 1 0 0", "shift 0 0 7 1", 1);
    }

    private static void heavy() {
        String one = "bar 3 9 6; line 3 4 1 100; thing CLOTH 1 1 800; thing CLOTH 1 1 8; thing CLOTH 1 1 8; ";
        edge.no("off its one line", one + "hang 0 3 4", "shift 3 4 5 1", Due.HEAVY, 3);
        edge.yes("it stays at its one line", one + "hang 0 3 4", "shift 3 4 4 1", 1);
        String turned = one + "line 3 0 1 9; hang 1 3 0; cut 1; ";
        edge.no("none is carried, and it is not held", turned, "shift 3 0 0 0", Due.HEAVY, 3);
        edge.no("none is carried, behind the last place", turned, "shift 3 9 9 0", Due.HEAVY, 3);
        edge.no("nothing is carried, and it is not held", turned, "shift 3 1 2 1", Due.HEAVY, 3);
        edge.no("onto itself, and it is not held", turned, "shift 3 0 0 1", Due.HEAVY, 3);
        edge.yes("to where it is held", turned, "shift 3 0 4 1", 1, "barOf 3 7 = 1");
        edge.yes("to where both are held", turned + "line 3 8 1 9; hang 2 3 5; cut 2", "shift 3 0 3 1", 1, "barOf 3 7 = 1");
        String pair = "bar 3 8 9; line 3 2 1 100; line 3 5 1 99; thing CLOTH 1 1 800; thing CLOTH 1 1 8; hang 0 3 2; ";
        edge.yes("99 and a third on 100, and less", pair, "shift 3 2 3 1", 1);
        edge.no("100 on 99", pair, "shift 3 2 5 1", Due.HEAVY, 3);
        edge.no("100 on 99, beyond it", pair, "shift 3 2 7 1", Due.HEAVY, 3);
        edge.yes("100 on 100, beyond it", pair, "shift 3 2 0 1", 1);
        edge.yes("an empty bar without lines", "bar 3 8 9", "shift 3 0 2 3", 0);
        edge.yes("another bar that is not held", turned + "bar 4 8 8", "shift 4 0 0 0", 0);
    }

    private static void order() {
        String way = "bar 0 8 10; bar 1 8 10; line 1 0 1 99; line 1 7 1 99; line 0 0 1 99; thing CLOTH 9 9 8; thing SET 9 9 8; "
                + "thing LAMP 1 1 0; heat 2 1; hang 0 0 0; hang 1 1 5; ";
        String up = "cue 0 1 0 1; go 1; ";
        edge.no("BEYOND ahead of COPY", way, "shift 12 -1 0 0", Due.BEYOND);
        edge.no("MISSING ahead of COPY", way, "shift 2 -1 0 0", Due.MISSING);
        edge.no("HIGH ahead of COPY", way + up, "shift 0 -1 0 0", Due.HIGH);
        edge.no("HIGH ahead of TAKEN", way + "hook 0 2 on;" + up, "shift 0 2 3 1", Due.HIGH);
        edge.no("HIGH ahead of CLASH", way + up, "shift 0 0 5 1", Due.HIGH);
        edge.no("COPY ahead of TAKEN, from", way + "hook 0 2 on", "shift 0 2 3 7", Due.COPY);
        edge.no("COPY ahead of TAKEN, to", way + "hook 0 7 on", "shift 0 1 7 2", Due.COPY);
        edge.no("COPY ahead of HEAVY", way + "cut 2", "shift 0 9 0 0", Due.COPY);
        edge.no("TAKEN, from, ahead of CLASH", way + "hook 0 1 on", "shift 0 0 5 2", Due.TAKEN);
        edge.no("TAKEN, to, ahead of CLASH", way + "hook 0 6 on", "shift 0 0 5 2", Due.TAKEN);
        edge.no("TAKEN ahead of HOT", way + "hang 2 0 4; hook 0 3 on", "shift 0 0 2 2", Due.TAKEN);
        edge.no("TAKEN ahead of HEAVY", way + "hook 0 3 on", "shift 0 0 3 1", Due.TAKEN);
        edge.no("CLASH ahead of HOT", way + "line 0 7 1 99; hang 2 0 4", "shift 0 0 5 1", Due.CLASH, 1);
        edge.no("CLASH ahead of HEAVY", way, "shift 0 0 5 1", Due.CLASH, 1);
        edge.no("CLASH ahead of HOT and HEAVY", way + "hang 2 0 4", "shift 0 0 5 1", Due.CLASH, 1);
        edge.no("HOT ahead of HEAVY", way + "hang 2 0 4", "shift 0 0 3 1", Due.HOT, 0);
        edge.no("HEAVY alone", way + "hang 2 0 4", "shift 0 0 1 1", Due.HEAVY, 0);
    }
}
