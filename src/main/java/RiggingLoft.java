import java.util.Arrays;

/** A loft above a stage; the document's promises are kept by the classes inside, this one is their face. */
public final class RiggingLoft {
    public static final int NONE = -1000000000;

    // The findings, numbered as the document numbers them.
    private static final int MISSING = 1;
    private static final int BEYOND = 2;
    private static final int SIZE = 3;
    private static final int KIND = 4;
    private static final int COPY = 5;
    private static final int SILENT = 6;
    private static final int NUMBER = 7;
    private static final int THERE = 8;
    private static final int LOOSE = 9;
    private static final int HIGH = 10;
    private static final int MUCH = 11;
    private static final int TAKEN = 12;
    private static final int CLASH = 13;
    private static final int HOT = 14;
    private static final int HEAVY = 15;
    private static final int BURDENED = 16;
    private static final int NOTHING = 17;
    private static final int RUNNING = 18;
    private static final int OTHER = 19;

    // The kinds of things.
    private static final int CLOTH = 0;
    private static final int BORDER = 1;
    private static final int LAMP = 2;
    private static final int SET = 3;
    private static final int FLYER = 4;

    // How much of everything there may be.
    private static final int BARS = 12;
    private static final int MOST_PLACES = 16;
    private static final int MOST_GAP = 30;
    private static final int TOP = 100;
    private static final int MOST_BRICKS = 2000;
    private static final int MOST_LINES = 40;
    private static final int MOST_PARTS = 8;
    private static final int MOST_STRENGTH = 30000;
    private static final int MOST_THINGS = 80;
    private static final int MOST_DEPTH = 15;
    private static final int MOST_TALLNESS = 40;
    private static final int MOST_BORDER_TALLNESS = 6;
    private static final int MOST_EIGHTHS = 400000;
    private static final int MOST_HEAT = 80000;
    private static final int HEAT_REACH = 2;
    private static final int FLAGS = 8;
    private static final int MOST_SIGN = 99;
    private static final int MOST_CUES = 60;
    private static final int MOST_STEP = 5;
    private static final int LATEST_TICK = 1000000;
    private static final int MOST_CUE_TICKS = 200;
    private static final int MOST_GO_TICKS = 100;
    private static final int STOPS_KEPT = 40;
    private static final int ACTS_KEPT = 60;
    private static final int MOST_STEPS = 40;
    private static final int TAPE_CUE_TICKS = 4;

    // What a place holds; a thing's number stands behind FIRST_THING.
    private static final int EMPTY = 0;
    private static final int HOOK = 1;
    private static final int FIRST_THING = 2;

    // The columns of the tables.
    private static final int BAR_PLACES = 0;
    private static final int BAR_GAP = 1;
    private static final int BAR_HEIGHT = 2;
    private static final int BAR_BRICKS = 3;
    private static final int BAR_COLUMNS = 4;

    private static final int LINE_BAR = 0;
    private static final int LINE_PLACE = 1;
    private static final int LINE_PARTS = 2;
    private static final int LINE_HOLDS = 3;
    private static final int LINE_FIRST_PART = 4;
    private static final int LINE_COLUMNS = LINE_FIRST_PART + MOST_PARTS;

    private static final int THING_KIND = 0;
    private static final int THING_DEPTH = 1;
    private static final int THING_TALLNESS = 2;
    private static final int THING_EIGHTHS = 3;
    private static final int THING_GRAMS = 4;
    private static final int THING_HEAT = 5;
    private static final int THING_BAR = 6;
    private static final int THING_PLACE = 7;
    private static final int THING_COLUMNS = 8;

    private static final int CUE_BAR = 0;
    private static final int CUE_STEP = 1;
    private static final int CUE_TICK = 2;
    private static final int CUE_TICKS = 3;
    private static final int CUE_ENDED = 4;
    private static final int CUE_COLUMNS = 5;

    private static final int STOP_TIME = 0;
    private static final int STOP_REASON = 1;
    private static final int STOP_BAR = 2;
    private static final int STOP_NEIGHBOUR = 3;
    private static final int STOP_PLACE = 4;
    private static final int STOP_COLUMNS = 5;

    private static final int COUNT_LINES = 0;
    private static final int COUNT_THINGS = 1;
    private static final int COUNT_CUES = 2;
    private static final int COUNT_STOPS = 3;
    private static final int COUNT_UNITS = 4;
    private static final int COUNT_TIME = 5;
    private static final int COUNTS = 6;

    private static final int CELLS = BARS * BAR_COLUMNS + BARS * MOST_PLACES + MOST_LINES * LINE_COLUMNS
            + MOST_THINGS * THING_COLUMNS + FLAGS + MOST_CUES * CUE_COLUMNS + STOPS_KEPT * STOP_COLUMNS + COUNTS;

    // How a cue stands to the TIME.
    private static final int CUE_AHEAD = 0;
    private static final int CUE_RUNS = 1;
    private static final int CUE_OVER = 2;
    private static final int CUE_WAS_ENDED = 3;

    // The reasons of a stop.
    private static final int TOO_FAR = 1;
    private static final int UNBALANCED = 2;
    private static final int NOT_HELD = 3;
    private static final int WOULD_CLASH = 4;

    // The acts of the tape, and where their numbers stand in a step.
    private static final int TAPE_HANG = 1;
    private static final int TAPE_STRIKE = 2;
    private static final int TAPE_BRICK = 3;
    private static final int TAPE_CUE = 4;
    private static final int TAPE_GO = 5;
    private static final int STEP_ACT = 0;
    private static final int STEP_A = 1;
    private static final int STEP_B = 2;
    private static final int STEP_C = 3;
    private static final int STEP_D = 4;
    private static final int STEP_COLUMNS = 5;

    // 360360 can be divided by every distance of two lines, 1 to 15, so that shares stay whole numbers.
    private static final long SHARE_UNIT = 360360L;

    private final Memory memory;
    private final Verdict verdict;
    private final Loft loft;
    private final Weights weights;
    private final Nearness nearness;
    private final Rigger rigger;
    private final Hanger hanger;
    private final Caller caller;
    private final Tape tape;

    public RiggingLoft() {
        memory = new Memory();
        verdict = new Verdict();
        loft = new Loft(memory);
        weights = new Weights(loft);
        nearness = new Nearness(loft);
        rigger = new Rigger(loft, verdict);
        hanger = new Hanger(loft, weights, nearness, verdict);
        caller = new Caller(loft, weights, nearness, verdict);
        tape = new Tape(verdict);
    }

    // ---- acts

    public int bar(int k, int places, int gap) {
        begin();
        return keep(rigger.rigBar(k, places, gap));
    }

    public int strip(int k) {
        begin();
        return keep(rigger.stripBar(k));
    }

    public int line(int bar, int place, int parts, int strength) {
        begin();
        return keep(rigger.addLine(bar, place, parts, strength));
    }

    public int wear(int line, int part, int by) {
        begin();
        return keep(rigger.wearPart(line, part, by));
    }

    public int cut(int line) {
        begin();
        return keep(rigger.cutLine(line));
    }

    public int thing(int kind, int depth, int tallness, int eighths) {
        begin();
        return keep(hanger.addThing(kind, depth, tallness, eighths));
    }

    public int heat(int thing, int eighths) {
        begin();
        return keep(hanger.heatLamp(thing, eighths));
    }

    public int hang(int thing, int bar, int place) {
        begin();
        return keep(hanger.hangThing(thing, bar, place));
    }

    public int strike(int thing) {
        begin();
        return keep(hanger.takeDown(thing));
    }

    public int hook(int bar, int place, boolean on) {
        begin();
        return keep(rigger.setHook(bar, place, on));
    }

    public int brick(int bar, int n) {
        begin();
        return keep(rigger.putBricks(bar, n));
    }

    public int shift(int bar, int from, int to, int n) {
        begin();
        return keep(hanger.carry(bar, from, to, n));
    }

    public int flag(int k, int sign) {
        begin();
        return keep(rigger.setFlag(k, sign));
    }

    public int wave(int k) {
        begin();
        return settle(rigger.waveFlag(k));
    }

    public int cue(int bar, int step, int tick, int ticks) {
        begin();
        return keep(caller.addCue(bar, step, tick, ticks));
    }

    public int hush(int bar) {
        begin();
        return keep(caller.hushBar(bar));
    }

    public int go(int n) {
        begin();
        return keep(caller.runTicks(n));
    }

    public int undo() {
        begin();
        return settle(memory.takeBack() ? memory.keptActs() : verdict.refuse(NOTHING));
    }

    public int tell(int act, int a, int b, int c, int d) {
        begin();
        return settle(tape.addStep(act, a, b, c, d));
    }

    public int forge(int step, int what, int value) {
        begin();
        return settle(tape.change(step, what, value));
    }

    public int clear() {
        begin();
        return tape.empty();
    }

    public int check() {
        begin();
        int done = 0;
        for (int step = 0; step < tape.size(); step++) {
            int answer = play(step);
            if (!verdict.isRefusal() && answer != tape.number(step, STEP_D)) {
                verdict.refuseOver(OTHER, answer);
            }
            if (verdict.isRefusal()) {
                break;
            }
            done++;
        }
        memory.rollBack();
        return done;
    }

    /** An act may write before it is refused: what it wrote is taken back by keep() and settle(). */
    private void begin() {
        verdict.forget();
        memory.open();
    }

    private int keep(int answer) {
        if (!verdict.isRefusal()) {
            memory.keepAct();
        }
        return settle(answer);
    }

    private int settle(int answer) {
        if (!verdict.isRefusal()) {
            return answer;
        }
        verdict.countRefusal();
        memory.rollBack();
        return NONE;
    }

    private int play(int step) {
        int a = tape.number(step, STEP_A);
        int b = tape.number(step, STEP_B);
        int c = tape.number(step, STEP_C);
        switch (tape.number(step, STEP_ACT)) {
            case TAPE_HANG:
                return hanger.hangThing(a, b, c);
            case TAPE_STRIKE:
                return hanger.takeDown(a);
            case TAPE_BRICK:
                return rigger.putBricks(a, b);
            case TAPE_CUE:
                return caller.addCue(a, b, loft.time(), TAPE_CUE_TICKS);
            default:
                return caller.runTicks(a);
        }
    }

    // ---- questions

    public int at(int bar, int place) {
        return loft.hasPlace(bar, place) ? loft.content.get(bar, place) : NONE;
    }

    public int of(int thing, int what) {
        if (!loft.isThing(thing)) {
            return NONE;
        }
        switch (what) {
            case 0:
                return loft.things.get(thing, THING_KIND);
            case 1:
                return loft.things.get(thing, THING_DEPTH);
            case 2:
                return loft.things.get(thing, THING_TALLNESS);
            case 3:
                return loft.things.get(thing, THING_BAR);
            case 4:
                return loft.things.get(thing, THING_PLACE);
            case 5:
                return loft.things.get(thing, THING_GRAMS);
            case 6:
                return loft.things.get(thing, THING_HEAT) > 0 ? 1 : 0;
            default:
                return NONE;
        }
    }

    public int barOf(int bar, int what) {
        if (!loft.isRigged(bar)) {
            return NONE;
        }
        switch (what) {
            case 0:
                return loft.bars.get(bar, BAR_PLACES);
            case 1:
                return loft.bars.get(bar, BAR_GAP);
            case 2:
                return loft.bars.get(bar, BAR_HEIGHT);
            case 3:
                return loft.bars.get(bar, BAR_BRICKS);
            case 4:
                return loft.thingsOn(bar);
            case 5:
                return loft.linesOf(bar);
            case 6:
                return nearness.leastOfGroup(bar);
            case 7:
                return weights.isHeld(bar) ? 1 : 0;
            case 8:
                return weights.isBalanced(bar) ? 1 : 0;
            default:
                return NONE;
        }
    }

    public double load(int bar) {
        return loft.isRigged(bar) ? (double) weights.burdens(bar) : 0.0;
    }

    public long share(int line) {
        return loft.isLineThere(line) ? weights.shareOf(line) : (long) NONE;
    }

    public int strength(int line) {
        return loft.isLineThere(line) ? loft.weakestPart(line) : NONE;
    }

    public int even(int bar) {
        return loft.isRigged(bar) ? weights.bricksWanted(bar) : NONE;
    }

    public int least() {
        int bricks = 0;
        for (int bar = 0; bar < BARS; bar++) {
            if (caller.isGroupCued(bar)) {
                bricks += Math.abs(weights.bricksWanted(bar));
            }
        }
        return bricks;
    }

    public int stop(int k, int what) {
        int all = loft.counts.get(0, COUNT_STOPS);
        if (k < 0 || k >= STOPS_KEPT || k >= all || what < 0 || what >= STOP_COLUMNS) {
            return NONE;
        }
        return loft.stops.get((all - 1 - k) % STOPS_KEPT, what);
    }

    public int cueOf(int cue, int what) {
        if (!loft.isCue(cue)) {
            return NONE;
        }
        switch (what) {
            case 0:
                return loft.cues.get(cue, CUE_BAR);
            case 1:
                return loft.cues.get(cue, CUE_STEP);
            case 2:
                return loft.cues.get(cue, CUE_TICK);
            case 3:
                return loft.cues.get(cue, CUE_TICKS);
            case 4:
                return loft.cueState(cue);
            default:
                return NONE;
        }
    }

    public int told(int what) {
        switch (what) {
            case 0:
                return loft.riggedBars();
            case 1:
                return loft.linesThere();
            case 2:
                return loft.counts.get(0, COUNT_THINGS);
            case 3:
                return loft.hangingThings();
            case 4:
                return loft.counts.get(0, COUNT_CUES);
            case 5:
                return loft.counts.get(0, COUNT_STOPS);
            case 6:
                return memory.keptActs();
            case 7:
                return tape.size();
            case 8:
                return loft.counts.get(0, COUNT_UNITS);
            case 9:
                return loft.time();
            default:
                return NONE;
        }
    }

    public int status(int what) {
        switch (what) {
            case 0:
                return verdict.finding();
            case 1:
                return verdict.subject();
            case 2:
                return verdict.refusals();
            default:
                return NONE;
        }
    }

    // ---- what the face is made of

    /**
     * Every number that undo() brings back, in one row. The first change of a cell in an act is noted with what the
     * cell held, so that an act is taken back by its notes alone and no copy of the whole row is ever made.
     */
    private static final class Memory {
        private final int[] values = new int[CELLS];
        private final int[] changedIn = new int[CELLS];
        private final int[] noteCell = new int[CELLS];
        private final int[] noteValue = new int[CELLS];
        private final Deed[] kept = new Deed[ACTS_KEPT];
        private int used = 0;
        private int act = 0;
        private int notes = 0;
        private int oldest = 0;
        private int count = 0;

        /** A table on cells that no other one has; without rows if there are too few cells left. */
        Table newTable(int rows, int columns) {
            int size = rows * columns;
            boolean fits = rows > 0 && columns > 0 && size <= CELLS - used;
            Table made = new Table(this, values, used, fits ? rows : 0, columns);
            used = fits ? used + size : used;
            return made;
        }

        void write(int cell, int value) {
            if (cell < 0 || cell >= values.length || values[cell] == value) {
                return;
            }
            if (changedIn[cell] != act && notes < noteCell.length) {
                changedIn[cell] = act;
                noteCell[notes] = cell;
                noteValue[notes] = values[cell];
                notes++;
            }
            values[cell] = value;
        }

        void open() {
            act++;
            notes = 0;
        }

        void rollBack() {
            restore(noteCell, noteValue, notes);
            open();
        }

        void keepAct() {
            kept[(oldest + count) % ACTS_KEPT] = new Deed(noteCell, noteValue, notes);
            if (count < ACTS_KEPT) {
                count++;
            } else {
                oldest = (oldest + 1) % ACTS_KEPT;
            }
        }

        /** Whether there was an act to take back. */
        boolean takeBack() {
            if (count == 0) {
                return false;
            }
            count--;
            int slot = (oldest + count) % ACTS_KEPT;
            Deed deed = kept[slot];
            kept[slot] = null;
            if (deed != null) {
                restore(deed.cells, deed.values, deed.cells.length);
            }
            return true;
        }

        int keptActs() {
            return count;
        }

        private void restore(int[] cells, int[] old, int n) {
            for (int i = 0; i < n && i < cells.length && i < old.length; i++) {
                int cell = cells[i];
                if (cell >= 0 && cell < values.length) {
                    values[cell] = old[i];
                }
            }
        }
    }

    /** What a kept act changed: the cells, and what they held ahead of it. */
    private static final class Deed {
        final int[] cells;
        final int[] values;

        Deed(int[] noteCell, int[] noteValue, int notes) {
            int n = Math.max(0, Math.min(notes, Math.min(noteCell.length, noteValue.length)));
            cells = Arrays.copyOf(noteCell, n);
            values = Arrays.copyOf(noteValue, n);
        }
    }

    /** Rows of numbers in the memory; outside of them all is 0, so that a bar that is none has no places, no things. */
    private static final class Table {
        private final Memory memory;
        private final int[] values;
        private final int base;
        private final int rows;
        private final int columns;

        Table(Memory memory, int[] values, int base, int rows, int columns) {
            this.memory = memory;
            this.values = values;
            this.base = base;
            this.rows = rows;
            this.columns = columns;
        }

        int get(int row, int column) {
            if (row < 0 || row >= rows || column < 0 || column >= columns) {
                return 0;
            }
            int cell = base + row * columns + column;
            return cell >= 0 && cell < values.length ? values[cell] : 0;
        }

        void set(int row, int column, int value) {
            if (row >= 0 && row < rows && column >= 0 && column < columns) {
                memory.write(base + row * columns + column, value);
            }
        }
    }

    /** What status() tells. */
    private static final class Verdict {
        private int finding = 0;
        private int subject = 0;
        private int refusals = 0;

        void forget() {
            finding = 0;
            subject = 0;
        }

        int refuse(int why) {
            return refuseOver(why, 0);
        }

        int refuseOver(int why, int about) {
            finding = why;
            subject = about;
            return NONE;
        }

        /** Refuses a bar that is none or is not rigged. */
        boolean refusesBar(Loft loft, int bar) {
            if (!loft.isBar(bar)) {
                refuse(BEYOND);
            } else if (!loft.isRigged(bar)) {
                refuse(MISSING);
            }
            return isRefusal();
        }

        /** Refuses a line that was not told or is not there. */
        boolean refusesLine(Loft loft, int line) {
            if (!loft.isLine(line)) {
                refuse(BEYOND);
            } else if (!loft.isLineThere(line)) {
                refuse(MISSING);
            }
            return isRefusal();
        }

        void countRefusal() {
            refusals++;
        }

        boolean isRefusal() {
            return finding != 0;
        }

        int finding() {
            return finding;
        }

        int subject() {
            return subject;
        }

        int refusals() {
            return refusals;
        }
    }

    /** The tables of all that is rigged, told and hung, and what can be read off them directly. */
    private static final class Loft {
        final Table bars;
        final Table content;
        final Table lines;
        final Table things;
        final Table flags;
        final Table cues;
        final Table stops;
        final Table counts;

        Loft(Memory memory) {
            bars = memory.newTable(BARS, BAR_COLUMNS);
            content = memory.newTable(BARS, MOST_PLACES);
            lines = memory.newTable(MOST_LINES, LINE_COLUMNS);
            things = memory.newTable(MOST_THINGS, THING_COLUMNS);
            flags = memory.newTable(FLAGS, 1);
            cues = memory.newTable(MOST_CUES, CUE_COLUMNS);
            stops = memory.newTable(STOPS_KEPT, STOP_COLUMNS);
            counts = memory.newTable(1, COUNTS);
        }

        int time() {
            return counts.get(0, COUNT_TIME);
        }

        boolean isBar(int bar) {
            return bar >= 0 && bar < BARS;
        }

        boolean isRigged(int bar) {
            return bars.get(bar, BAR_PLACES) > 0;
        }

        boolean hasPlace(int bar, int place) {
            return place >= 0 && place < bars.get(bar, BAR_PLACES);
        }

        boolean isHigh(int bar) {
            return bars.get(bar, BAR_HEIGHT) != 0;
        }

        boolean isFree(int bar, int place) {
            return content.get(bar, place) == EMPTY;
        }

        /** The thing in a place; below 0 if there is none. */
        int thingIn(int bar, int place) {
            return content.get(bar, place) - FIRST_THING;
        }

        int thingsOn(int bar) {
            int n = 0;
            for (int place = 0; place < MOST_PLACES; place++) {
                if (content.get(bar, place) >= FIRST_THING) {
                    n++;
                }
            }
            return n;
        }

        boolean isThing(int thing) {
            return thing >= 0 && thing < counts.get(0, COUNT_THINGS);
        }

        boolean hangs(int thing) {
            return things.get(thing, THING_BAR) != NONE;
        }

        boolean isKind(int thing, int kind) {
            return things.get(thing, THING_KIND) == kind;
        }

        boolean isLine(int line) {
            return line >= 0 && line < counts.get(0, COUNT_LINES);
        }

        boolean isLineThere(int line) {
            return isLine(line) && lines.get(line, LINE_HOLDS) == 1;
        }

        boolean holdsBar(int line, int bar) {
            return lines.get(line, LINE_HOLDS) == 1 && lines.get(line, LINE_BAR) == bar;
        }

        int linesOf(int bar) {
            int n = 0;
            for (int line = 0; line < MOST_LINES; line++) {
                if (holdsBar(line, bar)) {
                    n++;
                }
            }
            return n;
        }

        int weakestPart(int line) {
            int weakest = MOST_STRENGTH;
            int parts = lines.get(line, LINE_PARTS);
            for (int part = 0; part < parts; part++) {
                weakest = Math.min(weakest, lines.get(line, LINE_FIRST_PART + part));
            }
            return weakest;
        }

        boolean isCue(int cue) {
            return cue >= 0 && cue < counts.get(0, COUNT_CUES);
        }

        /** How a cue that was told stands to the TIME. */
        int cueState(int cue) {
            if (cues.get(cue, CUE_ENDED) != 0) {
                return CUE_WAS_ENDED;
            }
            int behind = counts.get(0, COUNT_TIME) - cues.get(cue, CUE_TICK);
            if (behind < 0) {
                return CUE_AHEAD;
            }
            return behind < cues.get(cue, CUE_TICKS) ? CUE_RUNS : CUE_OVER;
        }

        /** Whether a cue is one of a bar, and was not ended nor is over; it may still be ahead. */
        boolean isPendingCue(int cue, int bar) {
            if (cues.get(cue, CUE_BAR) != bar) {
                return false;
            }
            int state = cueState(cue);
            return state == CUE_AHEAD || state == CUE_RUNS;
        }

        boolean isBarCued(int bar) {
            int told = counts.get(0, COUNT_CUES);
            for (int cue = 0; cue < told; cue++) {
                if (isPendingCue(cue, bar)) {
                    return true;
                }
            }
            return false;
        }

        int riggedBars() {
            int n = 0;
            for (int bar = 0; bar < BARS; bar++) {
                if (isRigged(bar)) {
                    n++;
                }
            }
            return n;
        }

        int linesThere() {
            int n = 0;
            for (int line = 0; line < MOST_LINES; line++) {
                if (isLineThere(line)) {
                    n++;
                }
            }
            return n;
        }

        int hangingThings() {
            int n = 0;
            for (int thing = 0; thing < counts.get(0, COUNT_THINGS); thing++) {
                if (hangs(thing)) {
                    n++;
                }
            }
            return n;
        }
    }

    /** Load, balance and shares. */
    private static final class Weights {
        private final Loft loft;
        private final int[] lineAt = new int[MOST_PLACES];
        private final long[] shares = new long[MOST_PLACES];

        Weights(Loft loft) {
            this.loft = loft;
        }

        /** What a thing has on a bar. */
        float burden(int thing) {
            float weight = (float) loft.things.get(thing, THING_EIGHTHS) * 0.125f;
            return loft.things.get(thing, THING_KIND) == FLYER ? weight * 0.5f : weight;
        }

        /** The burdens of a bar's things added up. */
        float burdens(int bar) {
            float sum = 0.0f;
            for (int place = 0; place < MOST_PLACES; place++) {
                int thing = loft.thingIn(bar, place);
                if (thing >= 0) {
                    sum = sum + burden(thing);
                }
            }
            return sum;
        }

        boolean isBalanced(int bar) {
            float rest = burdens(bar) - 1000.0f * (float) loft.bars.get(bar, BAR_BRICKS);
            return rest > -1000.0f && rest < 1000.0f;
        }

        /** The nearest number of bricks in balance is the load's thousands, cut from below and filled up from above. */
        int bricksWanted(int bar) {
            if (isBalanced(bar)) {
                return 0;
            }
            float sum = burdens(bar);
            int bricks = loft.bars.get(bar, BAR_BRICKS);
            int thousands = (int) sum / 1000;
            if (bricks > thousands && sum > 1000.0f * (float) thousands) {
                thousands++;
            }
            return thousands - bricks;
        }

        boolean isHeld(int bar) {
            if (loft.thingsOn(bar) == 0) {
                return true;
            }
            int found = findLines(bar);
            spread(bar);
            if (found == 0 || isOneTooWeak()) {
                return false;
            }
            return found > 1 || isUpright(bar);
        }

        long shareOf(int line) {
            int bar = loft.lines.get(line, LINE_BAR);
            findLines(bar);
            spread(bar);
            int place = loft.lines.get(line, LINE_PLACE);
            return place >= 0 && place < shares.length ? shares[place] : 0L;
        }

        /** Spreads a bar's grams over the lines that were found last. */
        private void spread(int bar) {
            Arrays.fill(shares, 0L);
            for (int place = 0; place < MOST_PLACES; place++) {
                int thing = loft.thingIn(bar, place);
                if (thing >= 0) {
                    bear(place, (long) loft.things.get(thing, THING_GRAMS));
                }
            }
        }

        /** Finds a bar's lines by their places: how many. */
        private int findLines(int bar) {
            int found = 0;
            Arrays.fill(lineAt, NONE);
            for (int line = 0; line < MOST_LINES; line++) {
                int place = loft.lines.get(line, LINE_PLACE);
                if (loft.holdsBar(line, bar) && place >= 0 && place < lineAt.length) {
                    lineAt[place] = line;
                    found++;
                }
            }
            return found;
        }

        private void bear(int place, long grams) {
            int left = lineAtOrBefore(place);
            int right = lineAtOrBehind(place);
            if (left >= 0 && right > left) {
                long part = SHARE_UNIT / (right - left);
                addShare(left, grams * (right - place) * part);
                addShare(right, grams * (place - left) * part);
            } else {
                addShare(left >= 0 ? left : right, grams * SHARE_UNIT);
            }
        }

        private void addShare(int place, long more) {
            if (place >= 0 && place < shares.length) {
                shares[place] += more;
            }
        }

        private int lineAtOrBefore(int place) {
            for (int p = place; p >= 0 && p < lineAt.length; p--) {
                if (lineAt[p] >= 0) {
                    return p;
                }
            }
            return NONE;
        }

        private int lineAtOrBehind(int place) {
            for (int p = place; p >= 0 && p < lineAt.length; p++) {
                if (lineAt[p] >= 0) {
                    return p;
                }
            }
            return NONE;
        }

        private boolean isOneTooWeak() {
            for (int place = 0; place < MOST_PLACES; place++) {
                int line = lineAt[place];
                if (line >= 0 && shares[place] > SHARE_UNIT * loft.weakestPart(line)) {
                    return true;
                }
            }
            return false;
        }

        /** Whether a bar does not turn about its one line. */
        private boolean isUpright(int bar) {
            int middle = lineAtOrBehind(0);
            int turn = 0;
            for (int place = 0; place < MOST_PLACES; place++) {
                int thing = loft.thingIn(bar, place);
                if (thing >= 0) {
                    turn += loft.things.get(thing, THING_GRAMS) * (place - middle);
                }
            }
            return turn == 0;
        }
    }

    /** What hangs too near to something else, and which bars belong together. */
    private static final class Nearness {
        private final Loft loft;

        Nearness(Loft loft) {
            this.loft = loft;
        }

        /** Whether what is in a place of a bar, were the bar so high, would clash with what a neighbour has there. */
        boolean wouldClash(int bar, int height, int neighbour, int place) {
            int one = loft.content.get(bar, place) - FIRST_THING;
            int two = loft.content.get(neighbour, place) - FIRST_THING;
            if (one < 0 || two < 0 || one == two) {
                return false;
            }
            int gap = loft.bars.get(Math.min(bar, neighbour), BAR_GAP);
            int depths = loft.things.get(one, THING_DEPTH) + loft.things.get(two, THING_DEPTH);
            int firmest = Math.max(loft.things.get(one, THING_KIND), loft.things.get(two, THING_KIND));
            // SET and FLYER are the last kinds: they may not even touch.
            if (depths < gap || depths == gap && firmest < SET) {
                return false;
            }
            int other = loft.bars.get(neighbour, BAR_HEIGHT);
            return height - loft.things.get(one, THING_TALLNESS) < other
                    && other - loft.things.get(two, THING_TALLNESS) < height;
        }

        /** The least thing on a neighbour that clashes with one in n places of the bars from first to last; or NONE. */
        int leastClash(int first, int last, int from, int n) {
            int found = NONE;
            for (int bar = first; bar <= last; bar++) {
                int height = loft.bars.get(bar, BAR_HEIGHT);
                for (int place = from; place < from + n; place++) {
                    if (wouldClash(bar, height, bar - 1, place)) {
                        found = lesser(found, loft.thingIn(bar - 1, place));
                    }
                    if (wouldClash(bar, height, bar + 1, place)) {
                        found = lesser(found, loft.thingIn(bar + 1, place));
                    }
                }
            }
            return found;
        }

        /** The least CLOTH or BORDER of a bar that hangs where it is too hot; or NONE. */
        int leastTooHot(int bar) {
            int found = NONE;
            for (int place = 0; place < MOST_PLACES; place++) {
                int thing = loft.thingIn(bar, place);
                if (thing >= 0 && (loft.isKind(thing, CLOTH) || loft.isKind(thing, BORDER)) && isHotAt(bar, place)) {
                    found = lesser(found, thing);
                }
            }
            return found;
        }

        private boolean isHotAt(int bar, int place) {
            for (int p = place - HEAT_REACH; p <= place + HEAT_REACH; p++) {
                int thing = loft.thingIn(bar, p);
                // Only a LAMP ever gets a heat.
                if (thing >= 0 && loft.things.get(thing, THING_HEAT) > 0) {
                    return true;
                }
            }
            return false;
        }

        private static int lesser(int found, int thing) {
            return found == NONE ? thing : Math.min(found, thing);
        }

        /** Whether a FLYER hangs on a bar and on the one ahead of it: nothing else is on two bars. */
        boolean isTiedDown(int bar) {
            for (int place = 0; place < MOST_PLACES; place++) {
                int held = loft.content.get(bar, place);
                if (held >= FIRST_THING && held == loft.content.get(bar - 1, place)) {
                    return true;
                }
            }
            return false;
        }

        int leastOfGroup(int bar) {
            int least = bar;
            while (least > 0 && isTiedDown(least)) {
                least--;
            }
            return least;
        }

        int lastOfGroup(int bar) {
            int last = bar;
            while (last < BARS - 1 && isTiedDown(last + 1)) {
                last++;
            }
            return last;
        }
    }

    /** The acts on bars, lines, hooks, bricks and flags. */
    private static final class Rigger {
        private final Loft loft;
        private final Verdict verdict;

        Rigger(Loft loft, Verdict verdict) {
            this.loft = loft;
            this.verdict = verdict;
        }

        int rigBar(int bar, int places, int gap) {
            if (!loft.isBar(bar)) {
                return verdict.refuse(BEYOND);
            }
            if (loft.isRigged(bar)) {
                return verdict.refuse(THERE);
            }
            if (places < 0) {
                return verdict.refuse(SIZE);
            }
            if (places < 2 || places > MOST_PLACES || gap < 1 || gap > MOST_GAP) {
                return verdict.refuse(NUMBER);
            }
            loft.bars.set(bar, BAR_PLACES, places);
            loft.bars.set(bar, BAR_GAP, gap);
            return places;
        }

        int stripBar(int bar) {
            if (verdict.refusesBar(loft, bar)) {
                return NONE;
            }
            if (loft.isHigh(bar)) {
                return verdict.refuse(HIGH);
            }
            if (loft.isBarCued(bar)) {
                return verdict.refuse(RUNNING);
            }
            for (int place = 0; place < MOST_PLACES; place++) {
                if (!loft.isFree(bar, place)) {
                    return verdict.refuseOver(BURDENED, place);
                }
            }
            int gone = loft.linesOf(bar);
            for (int line = 0; line < MOST_LINES; line++) {
                if (loft.holdsBar(line, bar)) {
                    loft.lines.set(line, LINE_HOLDS, 0);
                }
            }
            for (int column = 0; column < BAR_COLUMNS; column++) {
                loft.bars.set(bar, column, 0);
            }
            return gone;
        }

        int addLine(int bar, int place, int parts, int strength) {
            if (verdict.refusesBar(loft, bar)) {
                return NONE;
            }
            if (!loft.hasPlace(bar, place)) {
                return verdict.refuse(BEYOND);
            }
            if (isPlaceHeld(bar, place)) {
                return verdict.refuse(THERE);
            }
            int line = loft.counts.get(0, COUNT_LINES);
            if (line >= MOST_LINES) {
                return verdict.refuse(MUCH);
            }
            if (parts < 0) {
                return verdict.refuse(SIZE);
            }
            if (parts < 1 || parts > MOST_PARTS || strength < 0 || strength > MOST_STRENGTH) {
                return verdict.refuse(NUMBER);
            }
            loft.counts.set(0, COUNT_LINES, line + 1);
            loft.lines.set(line, LINE_BAR, bar);
            loft.lines.set(line, LINE_PLACE, place);
            loft.lines.set(line, LINE_PARTS, parts);
            loft.lines.set(line, LINE_HOLDS, 1);
            for (int part = 0; part < parts; part++) {
                loft.lines.set(line, LINE_FIRST_PART + part, strength);
            }
            return line;
        }

        int wearPart(int line, int part, int by) {
            if (verdict.refusesLine(loft, line)) {
                return NONE;
            }
            if (part < 0 || part >= loft.lines.get(line, LINE_PARTS)) {
                return verdict.refuse(BEYOND);
            }
            if (by < 0 || by > MOST_STRENGTH) {
                return verdict.refuse(NUMBER);
            }
            int left = Math.max(0, loft.lines.get(line, LINE_FIRST_PART + part) - by);
            loft.lines.set(line, LINE_FIRST_PART + part, left);
            return left;
        }

        int cutLine(int line) {
            if (verdict.refusesLine(loft, line)) {
                return NONE;
            }
            loft.lines.set(line, LINE_HOLDS, 0);
            return loft.weakestPart(line);
        }

        int setHook(int bar, int place, boolean on) {
            if (verdict.refusesBar(loft, bar)) {
                return NONE;
            }
            if (!loft.hasPlace(bar, place)) {
                return verdict.refuse(BEYOND);
            }
            int held = loft.content.get(bar, place);
            if (held >= FIRST_THING) {
                return verdict.refuse(TAKEN);
            }
            loft.content.set(bar, place, on ? HOOK : EMPTY);
            return held == HOOK ? 1 : 0;
        }

        int putBricks(int bar, int n) {
            if (verdict.refusesBar(loft, bar)) {
                return NONE;
            }
            long bricks = (long) loft.bars.get(bar, BAR_BRICKS) + n;
            if (bricks < 0 || bricks > MOST_BRICKS) {
                return verdict.refuse(NUMBER);
            }
            loft.bars.set(bar, BAR_BRICKS, (int) bricks);
            return (int) bricks;
        }

        int setFlag(int k, int sign) {
            if (k < 0 || k >= FLAGS) {
                return verdict.refuse(BEYOND);
            }
            if (sign < 0 || sign > MOST_SIGN) {
                return verdict.refuse(NUMBER);
            }
            int old = loft.flags.get(k, 0);
            loft.flags.set(k, 0, sign);
            return old;
        }

        int waveFlag(int k) {
            if (k < 0 || k >= FLAGS) {
                return verdict.refuse(BEYOND);
            }
            int sign = loft.flags.get(k, 0);
            return sign == 0 ? verdict.refuse(SILENT) : sign;
        }

        private boolean isPlaceHeld(int bar, int place) {
            for (int line = 0; line < MOST_LINES; line++) {
                if (loft.holdsBar(line, bar) && loft.lines.get(line, LINE_PLACE) == place) {
                    return true;
                }
            }
            return false;
        }
    }

    /** The acts on things. Those with CLASH, HOT and HEAVY hang first and look then: a refusal is rolled back. */
    private static final class Hanger {
        private final Loft loft;
        private final Weights weights;
        private final Nearness nearness;
        private final Verdict verdict;
        private final int[] carried = new int[MOST_PLACES];

        Hanger(Loft loft, Weights weights, Nearness nearness, Verdict verdict) {
            this.loft = loft;
            this.weights = weights;
            this.nearness = nearness;
            this.verdict = verdict;
        }

        int addThing(int kind, int depth, int tallness, int eighths) {
            int tallest = kind == BORDER ? MOST_BORDER_TALLNESS : MOST_TALLNESS;
            if (kind < CLOTH || kind > FLYER || depth < 1 || depth > MOST_DEPTH
                    || tallness < 1 || tallness > tallest || eighths < 0 || eighths > MOST_EIGHTHS) {
                return verdict.refuse(NUMBER);
            }
            int thing = loft.counts.get(0, COUNT_THINGS);
            if (thing >= MOST_THINGS) {
                return verdict.refuse(MUCH);
            }
            loft.counts.set(0, COUNT_THINGS, thing + 1);
            loft.things.set(thing, THING_KIND, kind);
            loft.things.set(thing, THING_DEPTH, depth);
            loft.things.set(thing, THING_TALLNESS, tallness);
            loft.things.set(thing, THING_EIGHTHS, eighths);
            loft.things.set(thing, THING_GRAMS, (int) weights.burden(thing));
            loft.things.set(thing, THING_HEAT, 0);
            loft.things.set(thing, THING_BAR, NONE);
            loft.things.set(thing, THING_PLACE, NONE);
            return thing;
        }

        int heatLamp(int thing, int eighths) {
            if (!loft.isThing(thing)) {
                return verdict.refuse(BEYOND);
            }
            if (!loft.isKind(thing, LAMP)) {
                return verdict.refuse(KIND);
            }
            if (eighths < 0 || eighths > MOST_HEAT) {
                return verdict.refuse(NUMBER);
            }
            int old = loft.things.get(thing, THING_HEAT);
            loft.things.set(thing, THING_HEAT, eighths);
            int scorched = nearness.leastTooHot(loft.things.get(thing, THING_BAR));
            return scorched == NONE ? old : verdict.refuseOver(HOT, scorched);
        }

        int hangThing(int thing, int bar, int place) {
            if (!loft.isThing(thing)) {
                return verdict.refuse(BEYOND);
            }
            if (loft.hangs(thing)) {
                return verdict.refuse(THERE);
            }
            // Wrapped round or not, the bar behind a bar that is none is looked at by isBar alone.
            int last = loft.isKind(thing, FLYER) ? bar + 1 : bar;
            int why = whyNoRoom(bar, last, place);
            if (why != 0) {
                return verdict.refuse(why);
            }
            for (int b = bar; b <= last; b++) {
                loft.content.set(b, place, FIRST_THING + thing);
            }
            loft.things.set(thing, THING_BAR, bar);
            loft.things.set(thing, THING_PLACE, place);
            judge(bar, last, place, 1);
            return loft.thingsOn(bar);
        }

        int takeDown(int thing) {
            if (!loft.isThing(thing)) {
                return verdict.refuse(BEYOND);
            }
            if (!loft.hangs(thing)) {
                return verdict.refuse(LOOSE);
            }
            int bar = loft.things.get(thing, THING_BAR);
            int last = loft.isKind(thing, FLYER) ? bar + 1 : bar;
            if (loft.isHigh(bar) || loft.isHigh(last)) {
                return verdict.refuse(HIGH);
            }
            int place = loft.things.get(thing, THING_PLACE);
            loft.content.set(bar, place, EMPTY);
            loft.content.set(last, place, EMPTY);
            loft.things.set(thing, THING_BAR, NONE);
            loft.things.set(thing, THING_PLACE, NONE);
            return place;
        }

        int carry(int bar, int from, int to, int n) {
            if (verdict.refusesBar(loft, bar)) {
                return NONE;
            }
            if (loft.isHigh(bar)) {
                return verdict.refuse(HIGH);
            }
            int places = loft.bars.get(bar, BAR_PLACES);
            if (!isRange(from, n, places) || !isRange(to, n, places)) {
                return verdict.refuse(COPY);
            }
            if (isStuck(bar, from, n) || isInTheWay(bar, from, to, n)) {
                return verdict.refuse(TAKEN);
            }
            int things = moveAll(bar, from, to, n);
            judge(bar, bar, to, n);
            return things;
        }

        /** The first finding that keeps a place of the bars from first to last from being hung in; 0 if none does. */
        private int whyNoRoom(int first, int last, int place) {
            if (!loft.isBar(first) || !loft.isBar(last)) {
                return BEYOND;
            }
            if (!loft.isRigged(first) || !loft.isRigged(last)) {
                return MISSING;
            }
            if (!loft.hasPlace(first, place) || !loft.hasPlace(last, place)) {
                return BEYOND;
            }
            if (loft.isHigh(first) || loft.isHigh(last)) {
                return HIGH;
            }
            return loft.isFree(first, place) && loft.isFree(last, place) ? 0 : TAKEN;
        }

        /** Refuses if what hangs now in n places of the bars from first to last may not hang so. */
        private void judge(int first, int last, int from, int n) {
            int struck = nearness.leastClash(first, last, from, n);
            if (struck != NONE) {
                verdict.refuseOver(CLASH, struck);
                return;
            }
            // On a second bar only a FLYER was hung, which is never hot nor ever too hot.
            int scorched = nearness.leastTooHot(first);
            if (scorched != NONE) {
                verdict.refuseOver(HOT, scorched);
                return;
            }
            for (int bar = first; bar <= last; bar++) {
                if (!weights.isHeld(bar)) {
                    verdict.refuseOver(HEAVY, bar);
                    return;
                }
            }
        }

        private static boolean isRange(int start, int n, int places) {
            return start >= 0 && n >= 0 && start <= places && n <= places - start;
        }

        private boolean isStuck(int bar, int from, int n) {
            for (int i = 0; i < n; i++) {
                int held = loft.content.get(bar, from + i);
                if (held == HOOK || held >= FIRST_THING && loft.isKind(held - FIRST_THING, FLYER)) {
                    return true;
                }
            }
            return false;
        }

        private boolean isInTheWay(int bar, int from, int to, int n) {
            for (int i = 0; i < n; i++) {
                int place = to + i;
                boolean isCarriedFrom = place >= from && place < from + n;
                if (!isCarriedFrom && !loft.isFree(bar, place)) {
                    return true;
                }
            }
            return false;
        }

        private int moveAll(int bar, int from, int to, int n) {
            int things = 0;
            for (int i = 0; i < n && i < carried.length; i++) {
                carried[i] = loft.content.get(bar, from + i);
                loft.content.set(bar, from + i, EMPTY);
            }
            for (int i = 0; i < n && i < carried.length; i++) {
                if (carried[i] >= FIRST_THING) {
                    loft.content.set(bar, to + i, carried[i]);
                    loft.things.set(carried[i] - FIRST_THING, THING_PLACE, to + i);
                    things++;
                }
            }
            return things;
        }
    }

    /** The acts on cues, and the ticks. */
    private static final class Caller {
        private final Loft loft;
        private final Weights weights;
        private final Nearness nearness;
        private final Verdict verdict;
        private final boolean[] tiedDown = new boolean[BARS];
        private final boolean[] balanced = new boolean[BARS];
        private final boolean[] held = new boolean[BARS];
        private final int[] deciding = new int[BARS];
        private int stopBar = NONE;
        private int stopNeighbour = NONE;
        private int stopPlace = NONE;

        Caller(Loft loft, Weights weights, Nearness nearness, Verdict verdict) {
            this.loft = loft;
            this.weights = weights;
            this.nearness = nearness;
            this.verdict = verdict;
        }

        int addCue(int bar, int step, int tick, int ticks) {
            if (verdict.refusesBar(loft, bar)) {
                return NONE;
            }
            if (step == 0 || step < -MOST_STEP || step > MOST_STEP || tick < 0 || tick > LATEST_TICK
                    || ticks < 1 || ticks > MOST_CUE_TICKS) {
                return verdict.refuse(NUMBER);
            }
            int cue = loft.counts.get(0, COUNT_CUES);
            if (cue >= MOST_CUES) {
                return verdict.refuse(MUCH);
            }
            loft.counts.set(0, COUNT_CUES, cue + 1);
            loft.cues.set(cue, CUE_BAR, bar);
            loft.cues.set(cue, CUE_STEP, step);
            loft.cues.set(cue, CUE_TICK, tick);
            loft.cues.set(cue, CUE_TICKS, ticks);
            loft.cues.set(cue, CUE_ENDED, 0);
            return cue;
        }

        int hushBar(int bar) {
            if (verdict.refusesBar(loft, bar)) {
                return NONE;
            }
            int ended = 0;
            int told = loft.counts.get(0, COUNT_CUES);
            for (int cue = 0; cue < told; cue++) {
                if (loft.isPendingCue(cue, bar)) {
                    loft.cues.set(cue, CUE_ENDED, 1);
                    ended++;
                }
            }
            return ended;
        }

        int runTicks(int n) {
            if (n < 1 || n > MOST_GO_TICKS) {
                return verdict.refuse(NUMBER);
            }
            lookAtBars();
            int units = 0;
            for (int i = 0; i < n; i++) {
                units += runTick();
            }
            loft.counts.set(0, COUNT_UNITS, loft.counts.get(0, COUNT_UNITS) + units);
            return units;
        }

        /** Whether a cue of the bar's group is not over. */
        boolean isGroupCued(int bar) {
            int last = nearness.lastOfGroup(bar);
            for (int b = nearness.leastOfGroup(bar); b <= last; b++) {
                if (loft.isBarCued(b)) {
                    return true;
                }
            }
            return false;
        }

        /** Ticks change heights alone, so groups, balance and what is held are looked at once for all of them. */
        private void lookAtBars() {
            for (int bar = 0; bar < BARS; bar++) {
                tiedDown[bar] = nearness.isTiedDown(bar);
                balanced[bar] = weights.isBalanced(bar);
                held[bar] = weights.isHeld(bar);
            }
        }

        private int runTick() {
            findDeciding();
            int units = 0;
            int first = 0;
            for (int bar = 0; bar < BARS; bar++) {
                if (bar == BARS - 1 || !tiedDown[bar + 1]) {
                    units += moveGroup(first, bar);
                    first = bar + 1;
                }
            }
            loft.counts.set(0, COUNT_TIME, loft.time() + 1);
            return units;
        }

        /** For each bar the least cue that runs. */
        private void findDeciding() {
            Arrays.fill(deciding, NONE);
            int told = loft.counts.get(0, COUNT_CUES);
            for (int cue = 0; cue < told; cue++) {
                int bar = loft.cues.get(cue, CUE_BAR);
                if (bar >= 0 && bar < deciding.length && deciding[bar] == NONE && loft.cueState(cue) == CUE_RUNS) {
                    deciding[bar] = cue;
                }
            }
        }

        /** Moves the bars from first to last, a group, if a cue of it runs: how many units. */
        private int moveGroup(int first, int last) {
            int cue = NONE;
            for (int bar = last; bar >= first && bar >= 0 && bar < BARS; bar--) {
                cue = deciding[bar] != NONE ? deciding[bar] : cue;
            }
            if (cue == NONE) {
                return 0;
            }
            int step = loft.cues.get(cue, CUE_STEP);
            int way = step < 0 ? -1 : 1;
            for (int unit = 0; unit < Math.abs(step); unit++) {
                int reason = whyStop(first, last, way);
                if (reason == 0 && willClash(first, last, way)) {
                    reason = WOULD_CLASH;
                }
                if (reason != 0) {
                    noteStop(reason);
                    endRunning(first, last);
                    return unit;
                }
                for (int bar = first; bar <= last; bar++) {
                    loft.bars.set(bar, BAR_HEIGHT, loft.bars.get(bar, BAR_HEIGHT) + way);
                }
            }
            return Math.abs(step);
        }

        /** The reason in the group itself for which it can not go a unit, and the bar; 0 if there is none. */
        private int whyStop(int first, int last, int way) {
            stopNeighbour = NONE;
            stopPlace = NONE;
            for (int bar = first; bar <= last; bar++) {
                int height = loft.bars.get(bar, BAR_HEIGHT) + way;
                if (height < 0 || height > TOP) {
                    stopBar = bar;
                    return TOO_FAR;
                }
            }
            for (int bar = Math.max(first, 0); bar <= last && bar < BARS; bar++) {
                if (!balanced[bar]) {
                    stopBar = bar;
                    return UNBALANCED;
                }
            }
            for (int bar = Math.max(first, 0); bar <= last && bar < BARS; bar++) {
                if (!held[bar]) {
                    stopBar = bar;
                    return NOT_HELD;
                }
            }
            return 0;
        }

        /** A group lies side by side, so that only its outermost bars have a neighbour that is not of it. */
        private boolean willClash(int first, int last, int way) {
            for (int bar = first; bar <= last; bar++) {
                if (bar != first && bar != last) {
                    continue;
                }
                int height = loft.bars.get(bar, BAR_HEIGHT) + way;
                int places = loft.bars.get(bar, BAR_PLACES);
                for (int place = 0; place < places; place++) {
                    stopBar = bar;
                    stopPlace = place;
                    stopNeighbour = bar - 1;
                    if (bar == first && nearness.wouldClash(bar, height, stopNeighbour, place)) {
                        return true;
                    }
                    stopNeighbour = bar + 1;
                    if (bar == last && nearness.wouldClash(bar, height, stopNeighbour, place)) {
                        return true;
                    }
                }
            }
            return false;
        }

        private void noteStop(int reason) {
            int all = loft.counts.get(0, COUNT_STOPS);
            int slot = all % STOPS_KEPT;
            loft.stops.set(slot, STOP_TIME, loft.time());
            loft.stops.set(slot, STOP_REASON, reason);
            loft.stops.set(slot, STOP_BAR, stopBar);
            loft.stops.set(slot, STOP_NEIGHBOUR, stopNeighbour);
            loft.stops.set(slot, STOP_PLACE, stopPlace);
            loft.counts.set(0, COUNT_STOPS, all + 1);
        }

        private void endRunning(int first, int last) {
            int told = loft.counts.get(0, COUNT_CUES);
            for (int cue = 0; cue < told; cue++) {
                int bar = loft.cues.get(cue, CUE_BAR);
                if (bar >= first && bar <= last && loft.cueState(cue) == CUE_RUNS) {
                    loft.cues.set(cue, CUE_ENDED, 1);
                }
            }
        }
    }

    /** The tape stands outside the memory: undo() leaves it alone. */
    private static final class Tape {
        private final Verdict verdict;
        private final int[] numbers = new int[MOST_STEPS * STEP_COLUMNS];
        private int steps = 0;

        Tape(Verdict verdict) {
            this.verdict = verdict;
        }

        int size() {
            return steps;
        }

        int number(int step, int what) {
            int cell = cellOf(step, what);
            return cell >= 0 && cell < numbers.length ? numbers[cell] : 0;
        }

        int addStep(int act, int a, int b, int c, int d) {
            if (!isAct(act)) {
                return verdict.refuse(NUMBER);
            }
            if (steps >= MOST_STEPS) {
                return verdict.refuse(MUCH);
            }
            steps++;
            put(STEP_ACT, act);
            put(STEP_A, a);
            put(STEP_B, b);
            put(STEP_C, c);
            put(STEP_D, d);
            return steps;
        }

        int change(int step, int what, int value) {
            int cell = cellOf(step, what);
            if (cell < 0 || cell >= numbers.length) {
                return verdict.refuse(BEYOND);
            }
            if (what == STEP_ACT && !isAct(value)) {
                return verdict.refuse(NUMBER);
            }
            int old = numbers[cell];
            numbers[cell] = value;
            return old;
        }

        int empty() {
            int had = steps;
            steps = 0;
            return had;
        }

        private static boolean isAct(int act) {
            return act >= TAPE_HANG && act <= TAPE_GO;
        }

        /** Where a number of a step stands; below 0 if there is no such step or number. */
        private int cellOf(int step, int what) {
            boolean isThere = step >= 0 && step < steps && what >= 0 && what < STEP_COLUMNS;
            return isThere ? step * STEP_COLUMNS + what : NONE;
        }

        /** Into the latest step. */
        private void put(int what, int value) {
            int cell = cellOf(steps - 1, what);
            if (cell >= 0 && cell < numbers.length) {
                numbers[cell] = value;
            }
        }
    }
}
