/** Makes a call by its name, on the class or on its second writing; numbers that it does not have are left alone. */
final class Callers {
    private Callers() {
    }

    /** Every answer, an int, a long below 2^53 or a double, is told exactly by a double. */
    static double onClass(RiggingLoft x, String name, int... n) {
        switch (name) {
            case "bar": return x.bar(n[0], n[1], n[2]);
            case "strip": return x.strip(n[0]);
            case "line": return x.line(n[0], n[1], n[2], n[3]);
            case "wear": return x.wear(n[0], n[1], n[2]);
            case "cut": return x.cut(n[0]);
            case "thing": return x.thing(n[0], n[1], n[2], n[3]);
            case "heat": return x.heat(n[0], n[1]);
            case "hang": return x.hang(n[0], n[1], n[2]);
            case "strike": return x.strike(n[0]);
            case "hook": return x.hook(n[0], n[1], n[2] != 0);
            case "brick": return x.brick(n[0], n[1]);
            case "shift": return x.shift(n[0], n[1], n[2], n[3]);
            case "flag": return x.flag(n[0], n[1]);
            case "wave": return x.wave(n[0]);
            case "cue": return x.cue(n[0], n[1], n[2], n[3]);
            case "hush": return x.hush(n[0]);
            case "go": return x.go(n[0]);
            case "undo": return x.undo();
            case "tell": return x.tell(n[0], n[1], n[2], n[3], n[4]);
            case "forge": return x.forge(n[0], n[1], n[2]);
            case "clear": return x.clear();
            case "check": return x.check();
            case "at": return x.at(n[0], n[1]);
            case "of": return x.of(n[0], n[1]);
            case "barOf": return x.barOf(n[0], n[1]);
            case "load": return x.load(n[0]);
            case "share": return x.share(n[0]);
            case "strength": return x.strength(n[0]);
            case "even": return x.even(n[0]);
            case "least": return x.least();
            case "stop": return x.stop(n[0], n[1]);
            case "cueOf": return x.cueOf(n[0], n[1]);
            case "told": return x.told(n[0]);
            case "status": return x.status(n[0]);
            default: throw new IllegalArgumentException(name);
        }
    }

    static double onNaive(NaiveLoft x, String name, int... n) {
        switch (name) {
            case "wave": return x.wave(n[0]);
            case "undo": return x.undo();
            case "tell": return x.tell(n[0], n[1], n[2], n[3], n[4]);
            case "forge": return x.forge(n[0], n[1], n[2]);
            case "clear": return x.clear();
            case "check": return x.check();
            case "at": return x.at(n[0], n[1]);
            case "of": return x.of(n[0], n[1]);
            case "barOf": return x.barOf(n[0], n[1]);
            case "load": return x.load(n[0]);
            case "share": return x.share(n[0]);
            case "strength": return x.strength(n[0]);
            case "even": return x.even(n[0]);
            case "least": return x.least();
            case "stop": return x.stop(n[0], n[1]);
            case "cueOf": return x.cueOf(n[0], n[1]);
            case "told": return x.told(n[0]);
            case "status": return x.status(n[0]);
            default: return x.act(name, at(n, 0), at(n, 1), at(n, 2), at(n, 3));
        }
    }

    private static int at(int[] n, int i) {
        return i < n.length ? n[i] : 0;
    }
}
