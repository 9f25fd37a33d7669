import java.math.BigInteger;
import java.util.ArrayList;
import java.util.HashSet;
import java.util.List;
import java.util.Set;
import java.util.TreeSet;

/**
 * The document once more, as literally and as slowly as can be: whole copies for undo, fractions for shares, searches
 * where the class reckons. RandomRunsTest holds the class against it.
 */
final class NaiveLoft {
    static final int NONE = -1000000000;

    static final class Bar {
        int places;
        int gap;
        int height;
        int bricks;
        /** null: nothing, -1: a hook, else a thing. */
        Integer[] holds;

        Bar copy() {
            Bar b = new Bar();
            b.places = places;
            b.gap = gap;
            b.height = height;
            b.bricks = bricks;
            b.holds = holds.clone();
            return b;
        }
    }

    static final class Line {
        int bar;
        int place;
        boolean there;
        int[] parts;

        Line copy() {
            Line l = new Line();
            l.bar = bar;
            l.place = place;
            l.there = there;
            l.parts = parts.clone();
            return l;
        }

        int weakest() {
            int w = Integer.MAX_VALUE;
            for (int p : parts) {
                w = Math.min(w, p);
            }
            return w;
        }
    }

    static final class Thing {
        int kind;
        int depth;
        int tallness;
        float weight;
        float heat;

        Thing copy() {
            Thing t = new Thing();
            t.kind = kind;
            t.depth = depth;
            t.tallness = tallness;
            t.weight = weight;
            t.heat = heat;
            return t;
        }

        float burden() {
            return kind == 4 ? weight * 0.5f : weight;
        }

        boolean hot() {
            return kind == 2 && heat > 0;
        }
    }

    static final class Cue {
        int bar;
        int step;
        int tick;
        int ticks;
        boolean ended;

        Cue copy() {
            Cue c = new Cue();
            c.bar = bar;
            c.step = step;
            c.tick = tick;
            c.ticks = ticks;
            c.ended = ended;
            return c;
        }

        boolean runs(int t) {
            return !ended && t >= tick && t - tick < ticks;
        }

        boolean notOver(int t) {
            return !ended && t - tick < ticks;
        }
    }

    static final class State {
        Bar[] bars = new Bar[12];
        List<Line> lines = new ArrayList<>();
        List<Thing> things = new ArrayList<>();
        List<Cue> cues = new ArrayList<>();
        List<int[]> stops = new ArrayList<>();
        int[] flags = new int[8];
        int time;
        int units;

        State copy() {
            State s = new State();
            for (int i = 0; i < 12; i++) {
                s.bars[i] = bars[i] == null ? null : bars[i].copy();
            }
            for (Line l : lines) {
                s.lines.add(l.copy());
            }
            for (Thing t : things) {
                s.things.add(t.copy());
            }
            for (Cue c : cues) {
                s.cues.add(c.copy());
            }
            s.stops.addAll(stops);
            s.flags = flags.clone();
            s.time = time;
            s.units = units;
            return s;
        }

        /** The bars a thing hangs on, by rising numbers. */
        List<Integer> barsOf(int thing) {
            List<Integer> found = new ArrayList<>();
            for (int b = 0; b < 12; b++) {
                if (bars[b] == null) {
                    continue;
                }
                for (Integer held : bars[b].holds) {
                    if (held != null && held == thing) {
                        found.add(b);
                    }
                }
            }
            return found;
        }

        int placeOf(int thing) {
            for (Bar b : bars) {
                for (int p = 0; b != null && p < b.places; p++) {
                    if (b.holds[p] != null && b.holds[p] == thing) {
                        return p;
                    }
                }
            }
            return NONE;
        }

        Thing at(int bar, int place) {
            int n = numberAt(bar, place);
            return n < 0 ? null : things.get(n);
        }

        int numberAt(int bar, int place) {
            if (bar < 0 || bar > 11 || bars[bar] == null || place < 0 || place >= bars[bar].places) {
                return -1;
            }
            Integer held = bars[bar].holds[place];
            return held == null ? -1 : held;
        }

        int count(int bar) {
            int n = 0;
            for (int p = 0; p < bars[bar].places; p++) {
                if (at(bar, p) != null) {
                    n++;
                }
            }
            return n;
        }

        float load(int bar) {
            float sum = 0.0f;
            for (int p = 0; p < bars[bar].places; p++) {
                if (at(bar, p) != null) {
                    sum += at(bar, p).burden();
                }
            }
            return sum;
        }

        boolean balance(int bar, int bricks) {
            float d = load(bar) - 1000.0f * (float) bricks;
            return d > -1000.0f && d < 1000.0f;
        }

        int even(int bar) {
            for (int d = 0; d <= 4000; d++) {
                if (balance(bar, bars[bar].bricks + d)) {
                    return d;
                }
                if (balance(bar, bars[bar].bricks - d)) {
                    return -d;
                }
            }
            throw new IllegalStateException("no bricks balance bar " + bar);
        }

        List<Line> linesOf(int bar) {
            List<Line> found = new ArrayList<>();
            for (Line l : lines) {
                if (l.there && l.bar == bar) {
                    found.add(l);
                }
            }
            return found;
        }

        /** Numerator over the product of all distances 1 to 15, reduced by nobody. */
        static final BigInteger WHOLE = BigInteger.valueOf(1307674368000L);

        BigInteger share(Line line) {
            BigInteger sum = BigInteger.ZERO;
            List<Line> all = linesOf(line.bar);
            for (int p = 0; p < bars[line.bar].places; p++) {
                Thing t = at(line.bar, p);
                if (t == null) {
                    continue;
                }
                BigInteger g = BigInteger.valueOf((int) t.burden()).multiply(WHOLE);
                Line below = null;
                Line above = null;
                Line here = null;
                for (Line l : all) {
                    if (l.place == p) {
                        here = l;
                    } else if (l.place < p && (below == null || l.place > below.place)) {
                        below = l;
                    } else if (l.place > p && (above == null || l.place < above.place)) {
                        above = l;
                    }
                }
                if (here != null) {
                    sum = here == line ? sum.add(g) : sum;
                } else if (below == null || above == null) {
                    sum = below == line || above == line ? sum.add(g) : sum;
                } else {
                    BigInteger span = BigInteger.valueOf(above.place - below.place);
                    if (below == line) {
                        sum = sum.add(g.multiply(BigInteger.valueOf(above.place - p)).divide(span));
                    } else if (above == line) {
                        sum = sum.add(g.multiply(BigInteger.valueOf(p - below.place)).divide(span));
                    }
                }
            }
            return sum;
        }

        boolean held(int bar) {
            if (count(bar) == 0) {
                return true;
            }
            List<Line> all = linesOf(bar);
            if (all.size() >= 2) {
                for (Line l : all) {
                    if (share(l).compareTo(WHOLE.multiply(BigInteger.valueOf(l.weakest()))) > 0) {
                        return false;
                    }
                }
                return true;
            }
            if (all.isEmpty()) {
                return false;
            }
            long grams = 0;
            long turn = 0;
            for (int p = 0; p < bars[bar].places; p++) {
                if (at(bar, p) != null) {
                    int g = (int) at(bar, p).burden();
                    grams += g;
                    turn += (long) g * (p - all.get(0).place);
                }
            }
            return grams <= all.get(0).weakest() && turn == 0;
        }

        boolean clash(int bar, int height, int other, int place) {
            Thing a = at(bar, place);
            Thing b = at(other, place);
            if (a == null || b == null || a == b) {
                return false;
            }
            int gap = bars[Math.min(bar, other)].gap;
            boolean firm = a.kind >= 3 || b.kind >= 3;
            boolean near = a.depth + b.depth > gap || firm && a.depth + b.depth == gap;
            int upper = bars[other].height;
            return near && height - a.tallness < upper && upper - b.tallness < height;
        }

        /** The least CLOTH or BORDER anywhere that hangs where it is too hot. */
        int leastScorched() {
            int least = NONE;
            for (int b = 0; b < 12; b++) {
                for (int p = 0; p < 16; p++) {
                    Thing t = at(b, p);
                    if (t == null || t.kind > 1) {
                        continue;
                    }
                    for (int q = p - 2; q <= p + 2; q++) {
                        if (at(b, q) != null && at(b, q).hot() && (least == NONE || numberAt(b, p) < least)) {
                            least = numberAt(b, p);
                        }
                    }
                }
            }
            return least;
        }

        TreeSet<Integer> group(int bar) {
            TreeSet<Integer> all = new TreeSet<>();
            all.add(bar);
            boolean grew = true;
            while (grew) {
                grew = false;
                for (int t = 0; t < things.size(); t++) {
                    List<Integer> on = barsOf(t);
                    for (int b : on) {
                        if (all.contains(b) && all.addAll(on)) {
                            grew = true;
                            break;
                        }
                    }
                }
            }
            return all;
        }

        boolean cued(int bar) {
            for (Cue c : cues) {
                if (c.bar == bar && c.notOver(time)) {
                    return true;
                }
            }
            return false;
        }

        int tick() {
            int all = 0;
            Set<Integer> seen = new HashSet<>();
            for (int b = 0; b < 12; b++) {
                if (bars[b] == null || seen.contains(b)) {
                    continue;
                }
                TreeSet<Integer> group = group(b);
                seen.addAll(group);
                Cue deciding = null;
                for (int g : group) {
                    for (Cue c : cues) {
                        if (deciding == null && c.bar == g && c.runs(time)) {
                            deciding = c;
                        }
                    }
                }
                if (deciding != null) {
                    all += move(group, deciding.step);
                }
            }
            time++;
            return all;
        }

        int move(TreeSet<Integer> group, int step) {
            int way = step > 0 ? 1 : -1;
            for (int u = 0; u < Math.abs(step); u++) {
                int[] stop = stopOf(group, way);
                if (stop != null) {
                    stops.add(stop);
                    for (Cue c : cues) {
                        if (group.contains(c.bar) && c.runs(time)) {
                            c.ended = true;
                        }
                    }
                    return u;
                }
                for (int g : group) {
                    bars[g].height += way;
                }
            }
            return Math.abs(step);
        }

        int[] stopOf(TreeSet<Integer> group, int way) {
            for (int g : group) {
                if (bars[g].height + way < 0 || bars[g].height + way > 100) {
                    return new int[] {time, 1, g, NONE, NONE};
                }
            }
            for (int g : group) {
                if (!balance(g, bars[g].bricks)) {
                    return new int[] {time, 2, g, NONE, NONE};
                }
            }
            for (int g : group) {
                if (!held(g)) {
                    return new int[] {time, 3, g, NONE, NONE};
                }
            }
            for (int g : group) {
                for (int p = 0; p < bars[g].places; p++) {
                    for (int other = g - 1; other <= g + 1; other += 2) {
                        if (!group.contains(other) && clash(g, bars[g].height + way, other, p)) {
                            return new int[] {time, 4, g, other, p};
                        }
                    }
                }
            }
            return null;
        }
    }

    private State now = new State();
    private final List<State> kept = new ArrayList<>();
    private final List<int[]> tape = new ArrayList<>();
    private int finding;
    private int subject;
    private int refused;

    private int no(int why) {
        return no(why, 0);
    }

    private int no(int why, int about) {
        finding = why;
        subject = about;
        return NONE;
    }

    /** Does an act on a copy, and takes the copy over if it was done. */
    int act(String name, int a, int b, int c, int d) {
        finding = 0;
        subject = 0;
        State before = now;
        now = before.copy();
        int answer = doAct(name, a, b, c, d);
        if (finding != 0) {
            now = before;
            refused++;
            return NONE;
        }
        kept.add(before);
        if (kept.size() > 60) {
            kept.remove(0);
        }
        return answer;
    }

    private int doAct(String name, int a, int b, int c, int d) {
        switch (name) {
            case "bar": return bar(a, b, c);
            case "strip": return strip(a);
            case "line": return line(a, b, c, d);
            case "wear": return wear(a, b, c);
            case "cut": return cut(a);
            case "thing": return thing(a, b, c, d);
            case "heat": return heat(a, b);
            case "hang": return hang(a, b, c);
            case "strike": return strike(a);
            case "hook": return hook(a, b, c != 0);
            case "brick": return brick(a, b);
            case "shift": return shift(a, b, c, d);
            case "flag": return flag(a, b);
            case "cue": return cue(a, b, c, d);
            case "hush": return hush(a);
            case "go": return go(a);
            default: throw new IllegalArgumentException(name);
        }
    }

    private boolean noBar(int k) {
        return k < 0 || k > 11;
    }

    private int bar(int k, int places, int gap) {
        if (noBar(k)) return no(2);
        if (now.bars[k] != null) return no(8);
        if (places < 0) return no(3);
        if (places < 2 || places > 16 || gap < 1 || gap > 30) return no(7);
        Bar bar = new Bar();
        bar.places = places;
        bar.gap = gap;
        bar.holds = new Integer[places];
        now.bars[k] = bar;
        return places;
    }

    private int strip(int k) {
        if (noBar(k)) return no(2);
        if (now.bars[k] == null) return no(1);
        if (now.bars[k].height != 0) return no(10);
        if (now.cued(k)) return no(18);
        for (int p = 0; p < now.bars[k].places; p++) {
            if (now.bars[k].holds[p] != null) return no(16, p);
        }
        List<Line> gone = now.linesOf(k);
        for (Line l : gone) {
            l.there = false;
        }
        now.bars[k] = null;
        return gone.size();
    }

    private int line(int bar, int place, int parts, int strength) {
        if (noBar(bar)) return no(2);
        if (now.bars[bar] == null) return no(1);
        if (place < 0 || place >= now.bars[bar].places) return no(2);
        for (Line l : now.linesOf(bar)) {
            if (l.place == place) return no(8);
        }
        if (now.lines.size() == 40) return no(11);
        if (parts < 0) return no(3);
        if (parts < 1 || parts > 8 || strength < 0 || strength > 30000) return no(7);
        Line line = new Line();
        line.bar = bar;
        line.place = place;
        line.there = true;
        line.parts = new int[parts];
        java.util.Arrays.fill(line.parts, strength);
        now.lines.add(line);
        return now.lines.size() - 1;
    }

    private int wear(int line, int part, int by) {
        if (line < 0 || line >= now.lines.size()) return no(2);
        Line l = now.lines.get(line);
        if (!l.there) return no(1);
        if (part < 0 || part >= l.parts.length) return no(2);
        if (by < 0 || by > 30000) return no(7);
        l.parts[part] = Math.max(0, l.parts[part] - by);
        return l.parts[part];
    }

    private int cut(int line) {
        if (line < 0 || line >= now.lines.size()) return no(2);
        if (!now.lines.get(line).there) return no(1);
        now.lines.get(line).there = false;
        return now.lines.get(line).weakest();
    }

    private int thing(int kind, int depth, int tallness, int eighths) {
        if (kind < 0 || kind > 4 || depth < 1 || depth > 15 || tallness < 1 || tallness > 40
                || kind == 1 && tallness > 6 || eighths < 0 || eighths > 400000) return no(7);
        if (now.things.size() == 80) return no(11);
        Thing t = new Thing();
        t.kind = kind;
        t.depth = depth;
        t.tallness = tallness;
        t.weight = eighths * 0.125f;
        now.things.add(t);
        return now.things.size() - 1;
    }

    private boolean noThing(int thing) {
        return thing < 0 || thing >= now.things.size();
    }

    private int heat(int thing, int eighths) {
        if (noThing(thing)) return no(2);
        Thing t = now.things.get(thing);
        if (t.kind != 2) return no(4);
        if (eighths < 0 || eighths > 80000) return no(7);
        int old = (int) (t.heat * 8);
        t.heat = eighths * 0.125f;
        int least = now.leastScorched();
        return least != NONE ? no(14, least) : old;
    }

    private int hang(int thing, int bar, int place) {
        if (noThing(thing)) return no(2);
        if (!now.barsOf(thing).isEmpty()) return no(8);
        List<Integer> on = new ArrayList<>();
        on.add(bar);
        if (now.things.get(thing).kind == 4 && bar < 1000) {
            on.add(bar + 1);
        }
        for (int b : on) {
            if (noBar(b)) return no(2);
        }
        for (int b : on) {
            if (now.bars[b] == null) return no(1);
        }
        for (int b : on) {
            if (place < 0 || place >= now.bars[b].places) return no(2);
        }
        for (int b : on) {
            if (now.bars[b].height != 0) return no(10);
        }
        for (int b : on) {
            if (now.bars[b].holds[place] != null) return no(12);
        }
        for (int b : on) {
            now.bars[b].holds[place] = thing;
        }
        if (hangsWrong(on, List.of(place))) return NONE;
        return now.count(bar);
    }

    private boolean hangsWrong(List<Integer> on, List<Integer> places) {
        TreeSet<Integer> struck = new TreeSet<>();
        for (int b : on) {
            for (int p : places) {
                for (int other = b - 1; other <= b + 1; other += 2) {
                    if (now.clash(b, now.bars[b].height, other, p)) {
                        struck.add(now.numberAt(other, p));
                    }
                }
            }
        }
        if (!struck.isEmpty()) {
            no(13, struck.first());
            return true;
        }
        int least = now.leastScorched();
        if (least != NONE) {
            no(14, least);
            return true;
        }
        for (int b : on) {
            if (!now.held(b)) {
                no(15, b);
                return true;
            }
        }
        return false;
    }

    private int strike(int thing) {
        if (noThing(thing)) return no(2);
        List<Integer> on = now.barsOf(thing);
        if (on.isEmpty()) return no(9);
        for (int b : on) {
            if (now.bars[b].height != 0) return no(10);
        }
        int place = now.placeOf(thing);
        for (int b : on) {
            now.bars[b].holds[place] = null;
        }
        return place;
    }

    private int hook(int bar, int place, boolean set) {
        if (noBar(bar)) return no(2);
        if (now.bars[bar] == null) return no(1);
        if (place < 0 || place >= now.bars[bar].places) return no(2);
        Integer held = now.bars[bar].holds[place];
        if (held != null && held >= 0) return no(12);
        now.bars[bar].holds[place] = set ? Integer.valueOf(-1) : null;
        return held != null ? 1 : 0;
    }

    private int brick(int bar, int n) {
        if (noBar(bar)) return no(2);
        if (now.bars[bar] == null) return no(1);
        long more = (long) now.bars[bar].bricks + n;
        if (more < 0 || more > 2000) return no(7);
        now.bars[bar].bricks = (int) more;
        return (int) more;
    }

    private int shift(int bar, int from, int to, int n) {
        if (noBar(bar)) return no(2);
        if (now.bars[bar] == null) return no(1);
        Bar b = now.bars[bar];
        if (b.height != 0) return no(10);
        if (n < 0 || from < 0 || to < 0 || (long) from + n > b.places || (long) to + n > b.places) return no(5);
        for (int i = 0; i < n; i++) {
            Integer held = b.holds[from + i];
            if (held != null && (held < 0 || now.things.get(held).kind == 4)) return no(12);
        }
        Set<Integer> left = new HashSet<>();
        for (int i = 0; i < n; i++) {
            left.add(from + i);
        }
        for (int i = 0; i < n; i++) {
            if (!left.contains(to + i) && b.holds[to + i] != null) return no(12);
        }
        Integer[] after = b.holds.clone();
        for (int i = 0; i < n; i++) {
            after[from + i] = null;
        }
        int things = 0;
        List<Integer> places = new ArrayList<>();
        for (int i = 0; i < n; i++) {
            after[to + i] = b.holds[from + i];
            places.add(to + i);
            things += b.holds[from + i] == null ? 0 : 1;
        }
        b.holds = after;
        if (hangsWrong(List.of(bar), places)) return NONE;
        return things;
    }

    private int flag(int k, int sign) {
        if (k < 0 || k > 7) return no(2);
        if (sign < 0 || sign > 99) return no(7);
        int old = now.flags[k];
        now.flags[k] = sign;
        return old;
    }

    private int cue(int bar, int step, int tick, int ticks) {
        if (noBar(bar)) return no(2);
        if (now.bars[bar] == null) return no(1);
        if (step == 0 || step < -5 || step > 5 || tick < 0 || tick > 1000000 || ticks < 1 || ticks > 200) return no(7);
        if (now.cues.size() == 60) return no(11);
        Cue c = new Cue();
        c.bar = bar;
        c.step = step;
        c.tick = tick;
        c.ticks = ticks;
        now.cues.add(c);
        return now.cues.size() - 1;
    }

    private int hush(int bar) {
        if (noBar(bar)) return no(2);
        if (now.bars[bar] == null) return no(1);
        int n = 0;
        for (Cue c : now.cues) {
            if (c.bar == bar && c.notOver(now.time)) {
                c.ended = true;
                n++;
            }
        }
        return n;
    }

    private int go(int n) {
        if (n < 1 || n > 100) return no(7);
        int all = 0;
        for (int i = 0; i < n; i++) {
            all += now.tick();
        }
        now.units += all;
        return all;
    }

    private int refuse(int why) {
        refused++;
        return no(why);
    }

    int wave(int k) {
        finding = 0;
        subject = 0;
        if (k < 0 || k > 7) return refuse(2);
        return now.flags[k] == 0 ? refuse(6) : now.flags[k];
    }

    int undo() {
        finding = 0;
        subject = 0;
        if (kept.isEmpty()) return refuse(17);
        now = kept.remove(kept.size() - 1);
        return kept.size();
    }

    int tell(int act, int a, int b, int c, int d) {
        finding = 0;
        subject = 0;
        if (act < 1 || act > 5) return refuse(7);
        if (tape.size() == 40) return refuse(11);
        tape.add(new int[] {act, a, b, c, d});
        return tape.size();
    }

    int forge(int step, int what, int value) {
        finding = 0;
        subject = 0;
        if (step < 0 || step >= tape.size() || what < 0 || what > 4) return refuse(2);
        if (what == 0 && (value < 1 || value > 5)) return refuse(7);
        int old = tape.get(step)[what];
        tape.get(step)[what] = value;
        return old;
    }

    int clear() {
        finding = 0;
        subject = 0;
        int n = tape.size();
        tape.clear();
        return n;
    }

    int check() {
        finding = 0;
        subject = 0;
        State before = now;
        now = before.copy();
        int done = 0;
        String[] names = {"", "hang", "strike", "brick", "cue", "go"};
        for (int[] step : tape) {
            boolean isCue = step[0] == 4;
            int answer = doAct(names[step[0]], step[1], step[2], isCue ? now.time : step[3], isCue ? 4 : 0);
            if (finding != 0) {
                break;
            }
            if (answer != step[4]) {
                no(19, answer);
                break;
            }
            done++;
        }
        now = before;
        return done;
    }

    int at(int bar, int place) {
        if (noBar(bar) || now.bars[bar] == null || place < 0 || place >= now.bars[bar].places) return NONE;
        Integer held = now.bars[bar].holds[place];
        return held == null ? 0 : held < 0 ? 1 : held + 2;
    }

    int of(int thing, int what) {
        if (noThing(thing)) return NONE;
        Thing t = now.things.get(thing);
        List<Integer> on = now.barsOf(thing);
        switch (what) {
            case 0: return t.kind;
            case 1: return t.depth;
            case 2: return t.tallness;
            case 3: return on.isEmpty() ? NONE : on.get(0);
            case 4: return now.placeOf(thing);
            case 5: return (int) t.burden();
            case 6: return t.hot() ? 1 : 0;
            default: return NONE;
        }
    }

    int barOf(int bar, int what) {
        if (noBar(bar) || now.bars[bar] == null) return NONE;
        Bar b = now.bars[bar];
        switch (what) {
            case 0: return b.places;
            case 1: return b.gap;
            case 2: return b.height;
            case 3: return b.bricks;
            case 4: return now.count(bar);
            case 5: return now.linesOf(bar).size();
            case 6: return now.group(bar).first();
            case 7: return now.held(bar) ? 1 : 0;
            case 8: return now.balance(bar, b.bricks) ? 1 : 0;
            default: return NONE;
        }
    }

    double load(int bar) {
        return noBar(bar) || now.bars[bar] == null ? 0.0 : now.load(bar);
    }

    private boolean noLine(int line) {
        return line < 0 || line >= now.lines.size() || !now.lines.get(line).there;
    }

    long share(int line) {
        if (noLine(line)) return NONE;
        BigInteger times = now.share(now.lines.get(line)).multiply(BigInteger.valueOf(360360));
        BigInteger[] parts = times.divideAndRemainder(State.WHOLE);
        if (parts[1].signum() != 0) {
            throw new IllegalStateException("a share is no whole number of 360360ths");
        }
        return parts[0].longValueExact();
    }

    int strength(int line) {
        return noLine(line) ? NONE : now.lines.get(line).weakest();
    }

    int even(int bar) {
        return noBar(bar) || now.bars[bar] == null ? NONE : now.even(bar);
    }

    int least() {
        TreeSet<Integer> wanted = new TreeSet<>();
        for (Cue c : now.cues) {
            if (c.notOver(now.time)) {
                wanted.addAll(now.group(c.bar));
            }
        }
        int sum = 0;
        for (int b : wanted) {
            sum += Math.abs(now.even(b));
        }
        return sum;
    }

    int stop(int k, int what) {
        if (k < 0 || k > 39 || k >= now.stops.size() || what < 0 || what > 4) return NONE;
        return now.stops.get(now.stops.size() - 1 - k)[what];
    }

    int cueOf(int cue, int what) {
        if (cue < 0 || cue >= now.cues.size()) return NONE;
        Cue c = now.cues.get(cue);
        switch (what) {
            case 0: return c.bar;
            case 1: return c.step;
            case 2: return c.tick;
            case 3: return c.ticks;
            case 4: return c.ended ? 3 : now.time < c.tick ? 0 : c.runs(now.time) ? 1 : 2;
            default: return NONE;
        }
    }

    int told(int what) {
        int n = 0;
        switch (what) {
            case 0:
                for (Bar b : now.bars) {
                    n += b != null ? 1 : 0;
                }
                return n;
            case 1:
                for (Line l : now.lines) {
                    n += l.there ? 1 : 0;
                }
                return n;
            case 2: return now.things.size();
            case 3:
                for (int t = 0; t < now.things.size(); t++) {
                    n += now.barsOf(t).isEmpty() ? 0 : 1;
                }
                return n;
            case 4: return now.cues.size();
            case 5: return now.stops.size();
            case 6: return kept.size();
            case 7: return tape.size();
            case 8: return now.units;
            case 9: return now.time;
            default: return NONE;
        }
    }

    int status(int what) {
        switch (what) {
            case 0: return finding;
            case 1: return subject;
            case 2: return refused;
            default: return NONE;
        }
    }
}
