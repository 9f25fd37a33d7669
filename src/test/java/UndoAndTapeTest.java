/** A new object, undo and the tape: promises 1, 19 to 23, and what status() tells of them, 35. */
public final class UndoAndTapeTest {
    private static final int MIN = Integer.MIN_VALUE;
    private static final int MAX = Integer.MAX_VALUE;
    private static final Due due = new Due();

    public static void main(String[] args) {
        newObject();
        undoEach();
        undoKeepsSixty();
        undoLeavesTapeAndStatus();
        undoBringsBackCuesAndStops();
        refusedActsAreNotKept();
        tell();
        forge();
        clear();
        checkOrdinary();
        checkFindings();
        checkChangesNothing();
        checkCueTicks();
        checkCountsForNothing();
        status();
        due.end();
    }

    private static RiggingLoft small() {
        RiggingLoft x = new RiggingLoft();
        x.bar(0, 8, 10);
        x.line(0, 0, 1, 30000);
        x.line(0, 7, 1, 30000);
        x.thing(Due.CLOTH, 2, 4, 8000);
        x.thing(Due.CLOTH, 2, 4, 8000);
        return x;
    }

    private static void newObject() {
        due.promise(1);
        RiggingLoft x = new RiggingLoft();
        for (int what = 0; what < 10; what++) {
            due.is("told(" + what + ")", x.told(what), 0);
        }
        for (int what = 0; what < 3; what++) {
            due.is("status(" + what + ")", x.status(what), 0);
        }
        for (int bar = 0; bar < 12; bar++) {
            due.is("barOf(" + bar + ", 0)", x.barOf(bar, 0), Due.NONE);
        }
        due.is("NONE", RiggingLoft.NONE, Due.NONE);
        RiggingLoft y = new RiggingLoft();
        x.bar(0, 5, 5);
        due.is("objects do not share", y.told(0), 0);
    }

    private static void undoEach() {
        due.promise(19);
        RiggingLoft x = new RiggingLoft();
        due.no(x, "nothing to undo", x.undo(), Due.NOTHING);
        x.bar(0, 8, 10);
        x.bar(1, 8, 10);
        x.line(0, 0, 2, 30000);
        x.line(0, 7, 2, 30000);
        x.thing(Due.LAMP, 2, 4, 8);
        x.hook(0, 7, true);
        x.hang(0, 0, 3);
        x.flag(2, 9);
        x.strip(1);
        x.wear(0, 1, 5);
        x.cut(1);
        x.heat(0, 77);
        x.cut(0);
        x.line(0, 3, 1, 9);
        x.shift(0, 2, 2, 2);
        x.strike(0);
        x.brick(0, 6);
        x.cue(0, 2, 0, 9);
        x.brick(0, -6);
        x.go(2);
        x.hush(0);
        due.is("kept", x.told(6), 21);
        due.done(x, "undo hush", x.undo(), 20);
        due.is("the cue runs again", x.cueOf(0, 4), 1);
        due.done(x, "undo go", x.undo(), 19);
        due.is("the height", x.barOf(0, 2), 0);
        due.is("the TIME", x.told(9), 0);
        due.is("the units", x.told(8), 0);
        due.done(x, "undo brick", x.undo(), 18);
        due.is("the bricks", x.barOf(0, 3), 6);
        due.done(x, "undo cue", x.undo(), 17);
        due.is("the cues", x.told(4), 0);
        due.done(x, "undo brick", x.undo(), 16);
        due.is("the bricks", x.barOf(0, 3), 0);
        due.done(x, "undo strike", x.undo(), 15);
        due.is("it hangs again", x.at(0, 3), 2);
        due.is("of(0, 4)", x.of(0, 4), 3);
        due.done(x, "undo shift", x.undo(), 14);
        due.done(x, "undo line", x.undo(), 13);
        due.is("told(1)", x.told(1), 0);
        due.done(x, "undo cut", x.undo(), 12);
        due.is("strength(0)", x.strength(0), 29995);
        due.done(x, "undo heat", x.undo(), 11);
        due.is("of(0, 6)", x.of(0, 6), 0);
        due.done(x, "undo cut", x.undo(), 10);
        due.is("told(1)", x.told(1), 2);
        due.done(x, "undo wear", x.undo(), 9);
        due.is("strength(0)", x.strength(0), 30000);
        due.done(x, "undo strip", x.undo(), 8);
        due.is("barOf(1, 0)", x.barOf(1, 0), 8);
        due.is("barOf(1, 1)", x.barOf(1, 1), 10);
        due.done(x, "undo flag", x.undo(), 7);
        due.no(x, "the flag has no sign", x.wave(2), Due.SILENT);
        due.done(x, "undo hang", x.undo(), 6);
        due.is("at(0, 3)", x.at(0, 3), 0);
        due.is("of(0, 3)", x.of(0, 3), Due.NONE);
        due.done(x, "undo hook", x.undo(), 5);
        due.is("at(0, 7)", x.at(0, 7), 0);
        due.done(x, "undo thing", x.undo(), 4);
        due.is("told(2)", x.told(2), 0);
        x.undo();
        x.undo();
        due.done(x, "undo bar", x.undo(), 1);
        due.is("told(0)", x.told(0), 1);
        due.done(x, "undo bar", x.undo(), 0);
        due.no(x, "nothing any more", x.undo(), Due.NOTHING);
        due.done(x, "bar(0) anew", x.bar(0, 3, 3), 3);
        due.is("told(6)", x.told(6), 1);
    }

    private static void undoKeepsSixty() {
        RiggingLoft x = new RiggingLoft();
        x.bar(0, 8, 10);
        for (int i = 1; i <= 70; i++) {
            x.brick(0, 1);
        }
        due.is("60 are kept", x.told(6), 60);
        due.done(x, "undo", x.undo(), 59);
        due.done(x, "undo", x.undo(), 58);
        due.is("68 bricks", x.barOf(0, 3), 68);
        x.brick(0, 100);
        due.is("told(6)", x.told(6), 59);
        x.brick(0, 100);
        x.brick(0, 100);
        due.is("told(6)", x.told(6), 60);
        for (int i = 59; i >= 0; i--) {
            due.is("undo", x.undo(), i);
        }
        due.no(x, "nothing any more", x.undo(), Due.NOTHING);
        due.is("what is older stays done", x.barOf(0, 3), 11);
    }

    private static void undoLeavesTapeAndStatus() {
        RiggingLoft x = new RiggingLoft();
        x.bar(0, 8, 10);
        x.tell(3, 0, 1, 0, 1);
        x.bar(0, 8, 10);
        due.is("two acts are refused", x.brick(0, -1), Due.NONE);
        due.is("status(2)", x.status(2), 2);
        x.undo();
        due.is("the TAPE stays", x.told(7), 1);
        due.is("status(2)", x.status(2), 2);
        due.is("status(0)", x.status(0), 0);
        due.is("check()", x.check(), 0);
        due.is("the bar is not rigged any more", x.status(0), Due.MISSING);
    }

    private static void undoBringsBackCuesAndStops() {
        RiggingLoft x = new RiggingLoft();
        x.bar(0, 8, 10);
        x.cue(0, -1, 0, 9);
        x.go(1);
        due.is("a stop", x.told(5), 1);
        x.cue(0, 1, 1, 3);
        x.undo();
        x.undo();
        due.is("no stop", x.told(5), 0);
        due.is("the cue was not ended", x.cueOf(0, 4), 1);
        x.cue(0, 1, 0, 200);
        x.hush(0);
        x.undo();
        due.is("the cue was not ended", x.cueOf(1, 4), 1);
        x.undo();
        due.is("cue 1 is none", x.cueOf(1, 0), Due.NONE);
        due.is("the same number again", x.cue(0, 2, 7, 8), 1);
        due.is("cueOf(1, 2)", x.cueOf(1, 2), 7);
        x.go(3);
        x.go(3);
        due.is("the TIME", x.told(9), 6);
        x.undo();
        due.is("the TIME", x.told(9), 3);
        x.undo();
        due.is("the TIME", x.told(9), 0);
    }

    private static void refusedActsAreNotKept() {
        RiggingLoft x = small();
        int kept = x.told(6);
        x.hang(0, 3, 3);
        x.brick(0, -1);
        x.wave(3);
        x.tell(1, 0, 0, 0, 0);
        x.forge(0, 1, 1);
        x.check();
        x.clear();
        x.go(0);
        x.at(0, 0);
        due.is("told(6)", x.told(6), kept);
        x.brick(0, 0);
        due.is("an act that changes nothing is kept", x.told(6), kept + 1);
    }

    private static void tell() {
        due.promise(20);
        RiggingLoft x = new RiggingLoft();
        due.no(x, "act 0", x.tell(0, 1, 2, 3, 4), Due.NUMBER);
        due.no(x, "act 6", x.tell(6, 1, 2, 3, 4), Due.NUMBER);
        due.no(x, "act MIN", x.tell(MIN, 1, 2, 3, 4), Due.NUMBER);
        for (int i = 1; i <= 40; i++) {
            due.is("a step more", x.tell(1 + i % 5, MIN, MAX, i, -i), i);
        }
        due.no(x, "the 41st step", x.tell(1, 0, 0, 0, 0), Due.MUCH);
        due.no(x, "NUMBER ahead of MUCH", x.tell(9, 0, 0, 0, 0), Due.NUMBER);
        due.is("told(7)", x.told(7), 40);
        due.is("told(6)", x.told(6), 0);
    }

    private static void forge() {
        due.promise(21);
        RiggingLoft x = new RiggingLoft();
        due.no(x, "an empty TAPE", x.forge(0, 0, 1), Due.BEYOND);
        x.tell(1, 10, 20, 30, 40);
        x.tell(2, 11, 21, 31, 41);
        due.no(x, "step -1", x.forge(-1, 0, 1), Due.BEYOND);
        due.no(x, "step 2", x.forge(2, 0, 1), Due.BEYOND);
        due.no(x, "step MAX", x.forge(MAX, 0, 1), Due.BEYOND);
        due.no(x, "step MIN", x.forge(MIN, 0, 1), Due.BEYOND);
        due.no(x, "what -1", x.forge(0, -1, 1), Due.BEYOND);
        due.no(x, "what 5", x.forge(0, 5, 1), Due.BEYOND);
        due.no(x, "act 0", x.forge(0, 0, 0), Due.NUMBER);
        due.no(x, "act 6", x.forge(0, 0, 6), Due.NUMBER);
        due.done(x, "the act", x.forge(0, 0, 5), 1);
        due.done(x, "a", x.forge(0, 1, MIN), 10);
        due.done(x, "b", x.forge(0, 2, 0), 20);
        due.done(x, "c", x.forge(0, 3, 0), 30);
        due.done(x, "d", x.forge(0, 4, MAX), 40);
        due.done(x, "the act again", x.forge(0, 0, 1), 5);
        due.done(x, "a again", x.forge(0, 1, 3), MIN);
        due.done(x, "d again", x.forge(0, 4, 3), MAX);
        due.done(x, "another step", x.forge(1, 4, 3), 41);
        due.is("told(6)", x.told(6), 0);
    }

    private static void clear() {
        due.promise(22);
        RiggingLoft x = new RiggingLoft();
        due.done(x, "an empty TAPE", x.clear(), 0);
        x.tell(1, 10, 20, 30, 40);
        x.tell(2, 11, 21, 31, 41);
        x.tell(9, 0, 0, 0, 0);
        due.done(x, "two steps", x.clear(), 2);
        due.is("told(7)", x.told(7), 0);
        due.no(x, "no step any more", x.forge(0, 1, 1), Due.BEYOND);
        due.is("a step more", x.tell(1, 0, 0, 0, 0), 1);
    }

    private static void checkOrdinary() {
        due.promise(23);
        RiggingLoft x = small();
        due.done(x, "an empty TAPE", x.check(), 0);
        x.tell(1, 0, 0, 3, 1);
        x.tell(1, 1, 0, 4, 2);
        x.tell(3, 0, 2, 0, 2);
        x.tell(4, 0, 1, 0, 0);
        x.tell(5, 4, 0, 0, 4);
        x.tell(4, 0, -2, 0, 1);
        x.tell(5, 2, 0, 0, 4);
        x.tell(2, 1, 0, 0, 4);
        due.done(x, "all of them", x.check(), 8);
        due.done(x, "all of them again", x.check(), 8);
        x.forge(7, 4, 5);
        due.is("another answer", x.check(), 7);
        due.is("status(0)", x.status(0), Due.OTHER);
        due.is("status(1)", x.status(1), 4);
        x.forge(0, 4, 0);
        due.is("the first one's answer", x.check(), 0);
        due.is("status(0)", x.status(0), Due.OTHER);
        due.is("status(1)", x.status(1), 1);
    }

    private static void checkFindings() {
        RiggingLoft x = small();
        x.tell(3, 0, 2, 0, 2);
        x.tell(3, 0, -3, 0, Due.NONE);
        due.is("a refused act can not be done, though NONE was told", x.check(), 1);
        due.is("status(0)", x.status(0), Due.NUMBER);
        due.is("check() is not refused", x.status(2), 0);
        x.clear();
        x.tell(1, 0, 0, 3, 1);
        x.cut(0);
        due.is("HEAVY", x.check(), 0);
        due.is("status(0)", x.status(0), Due.HEAVY);
        due.is("status(1)", x.status(1), 0);
        x.bar(1, 5, 1);
        x.line(1, 3, 1, 30000);
        x.thing(Due.SET, 8, 4, 8);
        x.hang(2, 1, 3);
        due.is("CLASH", x.check(), 0);
        due.is("status(0)", x.status(0), Due.CLASH);
        due.is("status(1)", x.status(1), 2);
        due.is("status(2)", x.status(2), 0);
        x.forge(0, 0, 5);
        due.is("go(0)", x.check(), 0);
        due.is("status(0)", x.status(0), Due.NUMBER);
        due.is("status(1)", x.status(1), 0);
        x.clear();
        due.done(x, "nothing wrong", x.check(), 0);
    }

    private static void checkChangesNothing() {
        RiggingLoft x = small();
        x.cue(0, 1, 2, 5);
        x.brick(0, 3);
        int[] before = new int[10];
        for (int what = 0; what < 10; what++) {
            before[what] = x.told(what);
        }
        x.tell(3, 0, -3, 0, 0);
        x.tell(5, 50, 0, 0, 5);
        x.tell(4, 0, -5, 0, 1);
        x.tell(5, 50, 0, 0, 5);
        x.tell(1, 0, 0, 3, 1);
        x.tell(3, 0, 1, 0, 1);
        due.done(x, "all of them", x.check(), 6);
        before[7] = 6;
        for (int what = 0; what < 10; what++) {
            due.is("told(" + what + ")", x.told(what), before[what]);
        }
        due.is("at(0, 3)", x.at(0, 3), 0);
        due.is("of(0, 3)", x.of(0, 3), Due.NONE);
        due.is("barOf(0, 2)", x.barOf(0, 2), 0);
        due.is("barOf(0, 3)", x.barOf(0, 3), 3);
        due.is("cueOf(0, 4)", x.cueOf(0, 4), 0);
        due.is("stop(0, 0)", x.stop(0, 0), Due.NONE);
        due.is("undo", x.undo(), before[6] - 1);
        due.is("barOf(0, 3)", x.barOf(0, 3), 0);
    }

    private static void checkCueTicks() {
        RiggingLoft x = small();
        x.go(30);
        x.tell(5, 3, 0, 0, 0);
        x.tell(4, 0, 2, 77, 0);
        x.tell(5, 100, 0, 0, 8);
        due.done(x, "a cue from the TIME on, for 4 ticks", x.check(), 3);
        x.forge(1, 2, 0);
        due.is("step 0", x.check(), 1);
        due.is("status(0)", x.status(0), Due.NUMBER);
    }

    private static void checkCountsForNothing() {
        RiggingLoft x = small();
        x.hang(0, 0, 3);
        x.tell(2, 0, MAX, MIN, 3);
        x.tell(3, 0, 5, MIN, 5);
        x.tell(4, 0, 1, MIN, 0);
        x.tell(5, 1, MAX, MIN, 0);
        due.done(x, "what is not named counts for nothing", x.check(), 4);
    }

    private static void status() {
        due.promise(35);
        RiggingLoft x = new RiggingLoft();
        x.bar(0, 1, 1);
        x.bar(0, -1, 1);
        due.is("status(0)", x.status(0), Due.SIZE);
        due.is("status(2)", x.status(2), 2);
        x.barOf(0, 0);
        x.told(99);
        x.stop(0, 0);
        due.is("questions change nothing", x.status(0), Due.SIZE);
        due.is("questions are not refused", x.status(2), 2);
        x.bar(0, 4, 4);
        due.is("status(0)", x.status(0), 0);
        due.is("status(2)", x.status(2), 2);
        x.hook(0, 3, true);
        x.strip(0);
        due.is("the subject", x.status(1), 3);
        x.undo();
        x.undo();
        x.undo();
        due.is("NOTHING", x.status(0), Due.NOTHING);
        due.is("0 with others", x.status(1), 0);
        due.is("status(2)", x.status(2), 4);
        due.is("status(3)", x.status(3), Due.NONE);
        due.is("status(-1)", x.status(-1), Due.NONE);
    }
}
