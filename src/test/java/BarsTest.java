/** Bars, lines, hooks, bricks and flags: promises 2 to 6, 11, 12, 14, 15. */
public final class BarsTest {
    private static final int MIN = Integer.MIN_VALUE;
    private static final int MAX = Integer.MAX_VALUE;
    private static final Due due = new Due();

    public static void main(String[] args) {
        bar();
        strip();
        stripWithCues();
        line();
        lineMuch();
        wear();
        cut();
        hook();
        brick();
        flag();
        wave();
        due.end();
    }

    private static void bar() {
        due.promise(2);
        RiggingLoft x = new RiggingLoft();
        due.done(x, "bar(0, 2, 1)", x.bar(0, 2, 1), 2);
        due.done(x, "bar(11, 16, 30)", x.bar(11, 16, 30), 16);
        due.no(x, "bar(-1, ..)", x.bar(-1, 8, 8), Due.BEYOND);
        due.no(x, "bar(12, ..)", x.bar(12, -1, 0), Due.BEYOND);
        due.no(x, "bar(MIN, ..)", x.bar(MIN, 8, 8), Due.BEYOND);
        due.no(x, "bar(MAX, ..)", x.bar(MAX, 8, 8), Due.BEYOND);
        due.no(x, "bar(0, -1, 0) again", x.bar(0, -1, 0), Due.THERE);
        due.no(x, "bar(1, -1, 0)", x.bar(1, -1, 0), Due.SIZE);
        due.no(x, "bar(1, MIN, 5)", x.bar(1, MIN, 5), Due.SIZE);
        due.no(x, "bar(1, 0, 5)", x.bar(1, 0, 5), Due.NUMBER);
        due.no(x, "bar(1, 1, 5)", x.bar(1, 1, 5), Due.NUMBER);
        due.no(x, "bar(1, 17, 5)", x.bar(1, 17, 5), Due.NUMBER);
        due.no(x, "bar(1, 16, 0)", x.bar(1, 16, 0), Due.NUMBER);
        due.no(x, "bar(1, 16, 31)", x.bar(1, 16, 31), Due.NUMBER);
        due.no(x, "bar(1, 16, MIN)", x.bar(1, 16, MIN), Due.NUMBER);
        due.is("told(0)", x.told(0), 2);
        due.is("barOf(1, 0)", x.barOf(1, 0), Due.NONE);
        due.is("barOf(11, 0)", x.barOf(11, 0), 16);
        due.is("barOf(11, 1)", x.barOf(11, 1), 30);
        due.is("barOf(11, 2)", x.barOf(11, 2), 0);
        due.is("barOf(11, 3)", x.barOf(11, 3), 0);
    }

    private static void strip() {
        due.promise(3);
        RiggingLoft x = new RiggingLoft();
        due.no(x, "strip(-1)", x.strip(-1), Due.BEYOND);
        due.no(x, "strip(12)", x.strip(12), Due.BEYOND);
        due.no(x, "strip(3) not rigged", x.strip(3), Due.MISSING);
        x.bar(3, 5, 5);
        x.line(3, 0, 1, 10);
        x.line(3, 2, 1, 10);
        x.line(3, 4, 1, 10);
        x.cut(1);
        x.brick(3, 7);
        x.brick(3, -7);
        x.hook(3, 4, true);
        x.hook(3, 2, true);
        due.no(x, "strip(3) with hooks", x.strip(3), Due.BURDENED, 2);
        x.hook(3, 2, false);
        due.no(x, "strip(3) with a hook", x.strip(3), Due.BURDENED, 4);
        x.hook(3, 4, false);
        x.thing(Due.CLOTH, 1, 1, 8);
        x.hang(0, 3, 1);
        due.no(x, "strip(3) with a thing", x.strip(3), Due.BURDENED, 1);
        x.strike(0);
        x.brick(3, 9);
        due.done(x, "strip(3)", x.strip(3), 2);
        due.is("told(0)", x.told(0), 0);
        due.is("told(1)", x.told(1), 0);
        due.is("strength(0)", x.strength(0), Due.NONE);
        due.no(x, "strip(3) twice", x.strip(3), Due.MISSING);
        due.done(x, "bar(3) anew", x.bar(3, 4, 6), 4);
        due.is("bricks are gone", x.barOf(3, 3), 0);
        due.is("lines are gone", x.barOf(3, 5), 0);
        due.done(x, "strip(3) without lines", x.strip(3), 0);
    }

    private static void stripWithCues() {
        RiggingLoft x = new RiggingLoft();
        x.bar(3, 5, 5);
        x.hook(3, 0, true);
        x.cue(3, 1, 2, 2);
        due.no(x, "a cue is ahead", x.strip(3), Due.RUNNING);
        x.go(2);
        due.no(x, "a cue runs", x.strip(3), Due.RUNNING);
        x.go(1);
        due.no(x, "HIGH is looked at ahead of RUNNING", x.strip(3), Due.HIGH);
        x.go(1);
        due.no(x, "strip(3) high", x.strip(3), Due.HIGH);
        x.cue(3, -2, 4, 3);
        x.go(1);
        due.no(x, "down, and its cue still runs", x.strip(3), Due.RUNNING);
        x.hush(3);
        due.no(x, "its cues are ended", x.strip(3), Due.BURDENED, 0);
        x.hook(3, 0, false);
        due.done(x, "strip(3)", x.strip(3), 0);
        x.bar(3, 5, 5);
        x.cue(3, -1, 5, 2);
        x.go(1);
        due.done(x, "a cue that a stop ended does not count", x.strip(3), 0);
        x.bar(3, 5, 5);
        x.bar(4, 5, 5);
        x.cue(4, 1, 9, 9);
        due.done(x, "another bar's cue does not count", x.strip(3), 0);
    }

    private static void line() {
        due.promise(4);
        RiggingLoft x = new RiggingLoft();
        due.no(x, "line(-1, ..)", x.line(-1, 0, 1, 1), Due.BEYOND);
        due.no(x, "line(12, ..)", x.line(12, 0, 1, 1), Due.BEYOND);
        due.no(x, "line(0, -1, ..) not rigged", x.line(0, -1, 1, 1), Due.MISSING);
        x.bar(0, 6, 5);
        due.no(x, "line(0, -1, ..)", x.line(0, -1, -1, 1), Due.BEYOND);
        due.no(x, "line(0, 6, ..)", x.line(0, 6, 1, 1), Due.BEYOND);
        due.done(x, "line(0, 5, 1, 0)", x.line(0, 5, 1, 0), 0);
        due.done(x, "line(0, 0, 8, 30000)", x.line(0, 0, 8, 30000), 1);
        due.no(x, "line(0, 5, -1, ..) again", x.line(0, 5, -1, 9), Due.THERE);
        due.no(x, "parts -1", x.line(0, 1, -1, -1), Due.SIZE);
        due.no(x, "parts MIN", x.line(0, 1, MIN, 1), Due.SIZE);
        due.no(x, "parts 0", x.line(0, 1, 0, 1), Due.NUMBER);
        due.no(x, "parts 9", x.line(0, 1, 9, 1), Due.NUMBER);
        due.no(x, "strength -1", x.line(0, 1, 1, -1), Due.NUMBER);
        due.no(x, "strength 30001", x.line(0, 1, 1, 30001), Due.NUMBER);
        due.is("barOf(0, 5)", x.barOf(0, 5), 2);
        x.cut(0);
        due.done(x, "a cut line's place is free for another", x.line(0, 5, 2, 77), 2);
        due.is("strength(2)", x.strength(2), 77);
        due.is("strength(1)", x.strength(1), 30000);
        x.bar(1, 6, 5);
        due.done(x, "another bar's same place", x.line(1, 5, 2, 78), 3);
    }

    private static void lineMuch() {
        RiggingLoft x = new RiggingLoft();
        x.bar(0, 6, 5);
        for (int i = 0; i < 40; i++) {
            due.is("a line more", x.line(0, 2, 1, i), i);
            if (i < 39) {
                x.cut(i);
            }
        }
        due.no(x, "THERE ahead of MUCH", x.line(0, 2, -1, 1), Due.THERE);
        due.no(x, "the 41st line", x.line(0, 3, -1, 1), Due.MUCH);
        x.undo();
        due.done(x, "the 40th once more", x.line(0, 3, 1, 5), 39);
    }

    private static void wear() {
        due.promise(5);
        RiggingLoft x = new RiggingLoft();
        x.bar(0, 6, 5);
        due.no(x, "no line was told", x.wear(0, 0, 1), Due.BEYOND);
        x.line(0, 0, 3, 100);
        due.no(x, "wear(-1, ..)", x.wear(-1, 0, 1), Due.BEYOND);
        due.no(x, "wear(1, ..)", x.wear(1, 0, 1), Due.BEYOND);
        due.no(x, "part -1", x.wear(0, -1, -1), Due.BEYOND);
        due.no(x, "part 3", x.wear(0, 3, 1), Due.BEYOND);
        due.no(x, "part MAX", x.wear(0, MAX, 1), Due.BEYOND);
        due.no(x, "by -1", x.wear(0, 0, -1), Due.NUMBER);
        due.no(x, "by 30001", x.wear(0, 0, 30001), Due.NUMBER);
        due.done(x, "wear(0, 2, 30)", x.wear(0, 2, 30), 70);
        due.done(x, "wear(0, 1, 0)", x.wear(0, 1, 0), 100);
        due.done(x, "wear(0, 2, 10)", x.wear(0, 2, 10), 60);
        due.is("the weakest part counts", x.strength(0), 60);
        due.done(x, "wear(0, 0, 30000)", x.wear(0, 0, 30000), 0);
        due.is("strength(0)", x.strength(0), 0);
        x.cut(0);
        due.no(x, "a cut line", x.wear(0, 9, -1), Due.MISSING);
        x.line(0, 1, 1, 5);
        x.strip(0);
        due.no(x, "a line of a stripped bar", x.wear(1, 0, 1), Due.MISSING);
    }

    private static void cut() {
        due.promise(6);
        RiggingLoft x = new RiggingLoft();
        x.bar(0, 6, 5);
        due.no(x, "no line was told", x.cut(0), Due.BEYOND);
        x.line(0, 0, 3, 100);
        x.wear(0, 1, 1);
        due.no(x, "cut(-1)", x.cut(-1), Due.BEYOND);
        due.no(x, "cut(1)", x.cut(1), Due.BEYOND);
        due.done(x, "cut(0)", x.cut(0), 99);
        due.no(x, "cut(0) twice", x.cut(0), Due.MISSING);
        due.is("barOf(0, 5)", x.barOf(0, 5), 0);
        due.is("told(1)", x.told(1), 0);
        due.is("the next one's number", x.line(0, 0, 1, 1), 1);
    }

    private static void hook() {
        due.promise(11);
        RiggingLoft x = new RiggingLoft();
        due.no(x, "hook(12, ..)", x.hook(12, 0, true), Due.BEYOND);
        due.no(x, "hook(-1, ..)", x.hook(-1, 0, true), Due.BEYOND);
        due.no(x, "not rigged", x.hook(0, 99, true), Due.MISSING);
        x.bar(0, 4, 5);
        due.no(x, "place -1", x.hook(0, -1, true), Due.BEYOND);
        due.no(x, "place 4", x.hook(0, 4, true), Due.BEYOND);
        due.done(x, "no hook, none put", x.hook(0, 3, false), 0);
        due.done(x, "a hook", x.hook(0, 3, true), 0);
        due.is("at(0, 3)", x.at(0, 3), 1);
        due.done(x, "a hook again", x.hook(0, 3, true), 1);
        due.done(x, "none any more", x.hook(0, 3, false), 1);
        due.is("at(0, 3)", x.at(0, 3), 0);
        x.line(0, 3, 1, 30000);
        x.thing(Due.SET, 1, 1, 8);
        x.hang(0, 0, 3);
        due.no(x, "a thing hangs there", x.hook(0, 3, false), Due.TAKEN);
        due.no(x, "a thing hangs there", x.hook(0, 3, true), Due.TAKEN);
        x.cue(0, 1, 0, 1);
        x.go(1);
        due.done(x, "a high bar gets a hook too", x.hook(0, 0, true), 0);
    }

    private static void brick() {
        due.promise(12);
        RiggingLoft x = new RiggingLoft();
        due.no(x, "brick(12, 0)", x.brick(12, 0), Due.BEYOND);
        due.no(x, "brick(-1, 0)", x.brick(-1, 0), Due.BEYOND);
        due.no(x, "not rigged", x.brick(0, 9999), Due.MISSING);
        x.bar(0, 4, 5);
        due.no(x, "brick(0, -1)", x.brick(0, -1), Due.NUMBER);
        due.no(x, "brick(0, 2001)", x.brick(0, 2001), Due.NUMBER);
        due.done(x, "brick(0, 2000)", x.brick(0, 2000), 2000);
        due.no(x, "brick(0, 1)", x.brick(0, 1), Due.NUMBER);
        due.no(x, "brick(0, MAX)", x.brick(0, MAX), Due.NUMBER);
        due.no(x, "brick(0, MIN)", x.brick(0, MIN), Due.NUMBER);
        due.done(x, "brick(0, 0)", x.brick(0, 0), 2000);
        due.done(x, "brick(0, -1999)", x.brick(0, -1999), 1);
        due.no(x, "brick(0, -2)", x.brick(0, -2), Due.NUMBER);
        due.done(x, "brick(0, -1)", x.brick(0, -1), 0);
    }

    private static void flag() {
        due.promise(14);
        RiggingLoft x = new RiggingLoft();
        due.no(x, "flag(-1, 100)", x.flag(-1, 100), Due.BEYOND);
        due.no(x, "flag(8, 1)", x.flag(8, 1), Due.BEYOND);
        due.no(x, "flag(0, -1)", x.flag(0, -1), Due.NUMBER);
        due.no(x, "flag(0, 100)", x.flag(0, 100), Due.NUMBER);
        due.done(x, "flag(0, 99)", x.flag(0, 99), 0);
        due.done(x, "flag(7, 1)", x.flag(7, 1), 0);
        due.done(x, "flag(0, 0)", x.flag(0, 0), 99);
        due.done(x, "flag(0, 5)", x.flag(0, 5), 0);
        due.done(x, "flag(7, 2)", x.flag(7, 2), 1);
        due.is("flags are kept", x.told(6), 5);
    }

    private static void wave() {
        due.promise(15);
        RiggingLoft x = new RiggingLoft();
        due.no(x, "wave(-1)", x.wave(-1), Due.BEYOND);
        due.no(x, "wave(8)", x.wave(8), Due.BEYOND);
        due.no(x, "wave(7)", x.wave(7), Due.SILENT);
        x.flag(7, 42);
        due.done(x, "wave(7)", x.wave(7), 42);
        due.done(x, "wave(7) again", x.wave(7), 42);
        due.is("waves are not kept", x.told(6), 1);
        x.flag(0, 99);
        due.done(x, "wave(0)", x.wave(0), 99);
        x.flag(7, 0);
        due.no(x, "wave(7) without a sign", x.wave(7), Due.SILENT);
    }
}
