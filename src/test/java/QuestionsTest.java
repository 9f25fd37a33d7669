/** The questions: promises 24 to 30, 34. Those on cues and stops are in CuesTest, status() is in UndoAndTapeTest. */
public final class QuestionsTest {
    private static final int MIN = Integer.MIN_VALUE;
    private static final int MAX = Integer.MAX_VALUE;
    private static final int[] NO_BARS = {MIN, -1, 12, MAX, Due.NONE};
    private static final Due due = new Due();

    public static void main(String[] args) {
        at();
        of();
        barOf();
        barOfGroup();
        load();
        share();
        strength();
        even();
        evenTouchesTheEdges();
        told();
        due.end();
    }

    private static void at() {
        due.promise(24);
        RiggingLoft x = new RiggingLoft();
        due.is("not rigged", x.at(0, 0), Due.NONE);
        x.bar(0, 4, 4);
        x.line(0, 2, 1, 30000);
        x.thing(0, 1, 1, 8);
        x.thing(0, 1, 1, 8);
        x.hang(1, 0, 2);
        x.hook(0, 3, true);
        due.is("nothing", x.at(0, 0), 0);
        due.is("a hook", x.at(0, 3), 1);
        due.is("thing 1", x.at(0, 2), 3);
        due.is("place -1", x.at(0, -1), Due.NONE);
        due.is("place 4", x.at(0, 4), Due.NONE);
        due.is("place MAX", x.at(0, MAX), Due.NONE);
        due.is("place MIN", x.at(0, MIN), Due.NONE);
        for (int bar : NO_BARS) {
            due.is("at(" + bar + ", 0)", x.at(bar, 0), Due.NONE);
        }
    }

    private static void of() {
        due.promise(25);
        RiggingLoft x = new RiggingLoft();
        due.is("no thing", x.of(0, 0), Due.NONE);
        x.thing(Due.FLYER, 7, 33, 8031);
        x.thing(Due.LAMP, 2, 3, 15);
        due.is("kind", x.of(0, 0), Due.FLYER);
        due.is("depth", x.of(0, 1), 7);
        due.is("tallness", x.of(0, 2), 33);
        due.is("bar", x.of(0, 3), Due.NONE);
        due.is("place", x.of(0, 4), Due.NONE);
        due.is("grams of half 1003.875", x.of(0, 5), 501);
        due.is("hot", x.of(0, 6), 0);
        due.is("what 7", x.of(0, 7), Due.NONE);
        due.is("what -1", x.of(0, -1), Due.NONE);
        due.is("thing 2", x.of(2, 0), Due.NONE);
        due.is("thing -1", x.of(-1, 0), Due.NONE);
        due.is("thing MAX", x.of(MAX, 0), Due.NONE);
        due.is("grams of 1.875", x.of(1, 5), 1);
        x.heat(1, 1);
        due.is("hot", x.of(1, 6), 1);
        x.bar(4, 6, 30);
        x.bar(5, 6, 30);
        x.line(4, 2, 1, 30000);
        x.line(5, 2, 1, 30000);
        x.line(5, 3, 1, 30000);
        x.hang(0, 4, 2);
        x.hang(1, 5, 4);
        due.is("the lesser bar of a FLYER", x.of(0, 3), 4);
        due.is("its place", x.of(0, 4), 2);
        due.is("its grams", x.of(0, 5), 501);
        due.is("the LAMP's bar", x.of(1, 3), 5);
        due.is("the LAMP's place", x.of(1, 4), 4);
    }

    private static void barOf() {
        due.promise(26);
        RiggingLoft x = new RiggingLoft();
        for (int what = -1; what < 10; what++) {
            due.is("not rigged", x.barOf(3, what), Due.NONE);
            for (int bar : NO_BARS) {
                due.is("barOf(" + bar + ", " + what + ")", x.barOf(bar, what), Due.NONE);
            }
        }
        x.bar(3, 9, 17);
        due.is("an empty bar is held", x.barOf(3, 7), 1);
        due.is("an empty bar is in balance", x.barOf(3, 8), 1);
        x.hook(3, 0, true);
        due.is("a hook is no thing", x.barOf(3, 4), 0);
        due.is("a bar with a hook is held", x.barOf(3, 7), 1);
        x.line(3, 4, 1, 30000);
        x.thing(0, 1, 1, 8008);
        x.hang(0, 3, 4);
        x.brick(3, 2);
        due.is("places", x.barOf(3, 0), 9);
        due.is("gap", x.barOf(3, 1), 17);
        due.is("height", x.barOf(3, 2), 0);
        due.is("bricks", x.barOf(3, 3), 2);
        due.is("things", x.barOf(3, 4), 1);
        due.is("lines", x.barOf(3, 5), 1);
        due.is("group", x.barOf(3, 6), 3);
        due.is("held", x.barOf(3, 7), 1);
        due.is("1001 less 2000 is above -1000", x.barOf(3, 8), 1);
        x.brick(3, -2);
        due.is("1001 is not below 1000", x.barOf(3, 8), 0);
        due.is("what 9", x.barOf(3, 9), Due.NONE);
        due.is("what -1", x.barOf(3, -1), Due.NONE);
        x.cue(3, 1, 0, 1);
        x.brick(3, 1);
        x.go(1);
        due.is("height", x.barOf(3, 2), 1);
        x.wear(0, 0, 29000);
        due.is("1001 on 1000 is not held", x.barOf(3, 7), 0);
        x.cut(0);
        due.is("without a line it is not held", x.barOf(3, 7), 0);
        due.is("lines", x.barOf(3, 5), 0);
    }

    private static void barOfGroup() {
        RiggingLoft x = new RiggingLoft();
        for (int bar = 0; bar < 6; bar++) {
            x.bar(bar, 4, 30);
            x.line(bar, 1, 1, 30000);
            x.line(bar, 2, 1, 30000);
        }
        for (int i = 0; i < 4; i++) {
            x.thing(Due.FLYER, 1, 1, 16);
        }
        x.hang(0, 3, 1);
        x.hang(1, 1, 1);
        due.is("bar 2", x.barOf(2, 6), 1);
        due.is("bar 4", x.barOf(4, 6), 3);
        due.is("two FLYERS in one place are not one", x.barOf(3, 6), 3);
        x.hang(2, 2, 2);
        due.is("bar 4, through 3 and 2", x.barOf(4, 6), 1);
        due.is("bar 5", x.barOf(5, 6), 5);
        due.is("bar 0", x.barOf(0, 6), 0);
        due.is("things on bar 2", x.barOf(2, 4), 2);
        x.strike(1);
        due.is("bar 4", x.barOf(4, 6), 2);
        due.is("bar 1", x.barOf(1, 6), 1);
    }

    private static void load() {
        due.promise(27);
        RiggingLoft x = new RiggingLoft();
        due.isDouble("not rigged", x.load(0), 0.0);
        for (int bar : NO_BARS) {
            due.isDouble("load(" + bar + ")", x.load(bar), 0.0);
        }
        x.bar(0, 16, 30);
        x.bar(1, 16, 30);
        due.isDouble("empty", x.load(0), 0.0);
        x.line(0, 0, 1, 30000);
        x.line(0, 1, 1, 30000);
        x.line(1, 0, 1, 30000);
        x.line(1, 1, 1, 30000);
        x.thing(Due.CLOTH, 1, 1, 1);
        x.thing(Due.FLYER, 1, 1, 1);
        x.thing(Due.SET, 1, 1, 160001);
        x.hang(0, 0, 0);
        due.isDouble("an eighth", x.load(0), 0.125);
        x.hang(1, 0, 1);
        due.isDouble("and half an eighth", x.load(0), 0.1875);
        due.isDouble("half an eighth", x.load(1), 0.0625);
        x.hang(2, 0, 15);
        due.isDouble("and 20000.125", x.load(0), 20000.3125);
    }

    private static void share() {
        due.promise(28);
        RiggingLoft x = new RiggingLoft();
        due.is("no line", x.share(0), Due.NONE);
        x.bar(0, 16, 30);
        x.line(0, 1, 1, 30000);
        due.is("an empty bar", x.share(0), 0);
        x.line(0, 14, 1, 30000);
        x.line(0, 8, 1, 30000);
        for (int i = 0; i < 5; i++) {
            x.thing(Due.CLOTH, 1, 1, 8000 + i);
        }
        x.hang(0, 0, 0);
        due.is("beyond the outermost one", x.share(0), 360360000L);
        x.hang(1, 0, 15);
        due.is("beyond the outermost one on the other side", x.share(1), 360360000L);
        due.is("the one between bears nothing", x.share(2), 0);
        x.hang(2, 0, 8);
        due.is("at its place", x.share(2), 360360000L);
        x.hang(3, 0, 3);
        due.is("5 of 7", x.share(0), 360360000L + 257400000L);
        due.is("2 of 7", x.share(2), 360360000L + 102960000L);
        x.hang(4, 0, 12);
        due.is("2 of 6", x.share(2), 360360000L + 102960000L + 120120000L);
        due.is("4 of 6", x.share(1), 360360000L + 240240000L);
        x.cut(2);
        due.is("not there", x.share(2), Due.NONE);
        due.is("of 13: 6, 11, 2 beside all of one", x.share(0), 360360000L + 360360000L / 13 * (6 + 11 + 2));
        due.is("share(-1)", x.share(-1), Due.NONE);
        due.is("share(3)", x.share(3), Due.NONE);
        due.is("share(40)", x.share(40), Due.NONE);
        due.is("share(MAX)", x.share(MAX), Due.NONE);
        due.is("share(MIN)", x.share(MIN), Due.NONE);
        RiggingLoft y = new RiggingLoft();
        y.bar(3, 16, 30);
        y.line(3, 0, 1, 30000);
        y.line(3, 15, 1, 30000);
        y.thing(Due.SET, 1, 1, 200000);
        y.hang(0, 3, 7);
        due.is("8 of 15 of 25000", y.share(0), 25000L * 8 * 24024);
        due.is("7 of 15 of 25000", y.share(1), 25000L * 7 * 24024);
    }

    private static void strength() {
        due.promise(29);
        RiggingLoft x = new RiggingLoft();
        due.is("no line", x.strength(0), Due.NONE);
        x.bar(0, 16, 30);
        x.line(0, 1, 8, 30000);
        due.is("strength(0)", x.strength(0), 30000);
        x.wear(0, 7, 1);
        due.is("the last part is the weakest", x.strength(0), 29999);
        x.wear(0, 0, 3);
        due.is("the first part is the weakest", x.strength(0), 29997);
        due.is("strength(-1)", x.strength(-1), Due.NONE);
        due.is("strength(1)", x.strength(1), Due.NONE);
        due.is("strength(MAX)", x.strength(MAX), Due.NONE);
        x.cut(0);
        due.is("cut", x.strength(0), Due.NONE);
        x.line(0, 2, 1, 7);
        x.strip(0);
        due.is("stripped", x.strength(1), Due.NONE);
    }

    private static void even() {
        due.promise(30);
        RiggingLoft x = new RiggingLoft();
        due.is("not rigged", x.even(0), Due.NONE);
        for (int bar : NO_BARS) {
            due.is("even(" + bar + ")", x.even(bar), Due.NONE);
        }
        x.bar(0, 16, 30);
        due.is("empty", x.even(0), 0);
        x.brick(0, 1);
        due.is("1 brick for nothing", x.even(0), -1);
        x.brick(0, 1999);
        due.is("2000 bricks for nothing", x.even(0), -2000);
        for (int place = 0; place < 16; place++) {
            x.line(0, place, 1, 30000);
            x.thing(Due.CLOTH, 1, 1, 240000);
            x.hang(place, 0, place);
        }
        due.is("480000", x.even(0), -1520);
        x.brick(0, -2000);
        due.is("480000 without bricks", x.even(0), 480);
    }

    private static void evenTouchesTheEdges() {
        int[] eighths = {7999, 8000, 8001, 12000, 15999, 16000};
        int[] fewest = {0, 1, 1, 1, 1, 2};
        int[] most = {1, 1, 2, 2, 2, 2};
        for (int i = 0; i < eighths.length; i++) {
            RiggingLoft x = new RiggingLoft();
            x.bar(0, 3, 30);
            x.line(0, 1, 1, 30000);
            x.thing(Due.CLOTH, 1, 1, eighths[i]);
            x.hang(0, 0, 1);
            due.is("fewest bricks of " + eighths[i] + " eighths", x.even(0), fewest[i]);
            x.brick(0, 10);
            due.is("most bricks of " + eighths[i] + " eighths", x.even(0), most[i] - 10);
            x.brick(0, most[i] - 10);
            due.is("in balance", x.barOf(0, 8), 1);
            due.is("even then", x.even(0), 0);
            x.brick(0, 1);
            due.is("out of balance", x.barOf(0, 8), 0);
        }
    }

    private static void told() {
        due.promise(34);
        RiggingLoft x = new RiggingLoft();
        x.bar(0, 5, 30);
        x.bar(1, 5, 30);
        x.bar(2, 5, 30);
        x.strip(2);
        x.line(0, 2, 1, 30000);
        x.line(0, 3, 1, 30000);
        x.line(1, 2, 1, 30000);
        x.cut(1);
        x.thing(Due.FLYER, 1, 1, 8);
        x.thing(Due.CLOTH, 1, 1, 8);
        x.hang(0, 0, 2);
        x.cue(0, 3, 0, 2);
        x.cue(0, -1, 0, 1);
        x.go(3);
        x.tell(1, 0, 0, 0, 0);
        int[] want = {2, 2, 2, 1, 2, 0, 14, 1, 6, 3};
        for (int what = 0; what < want.length; what++) {
            due.is("told(" + what + ")", x.told(what), want[what]);
        }
        x.cue(1, -5, 3, 9);
        x.go(4);
        due.is("stops", x.told(5), 1);
        due.is("units", x.told(8), 12);
        due.is("told(10)", x.told(10), Due.NONE);
        due.is("told(-1)", x.told(-1), Due.NONE);
        due.is("told(MAX)", x.told(MAX), Due.NONE);
    }
}
