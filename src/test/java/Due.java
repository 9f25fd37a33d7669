/** Holds answers against those that are due, prints the wrong ones, and ends the test. */
final class Due {
    static final int MISSING = 1;
    static final int BEYOND = 2;
    static final int SIZE = 3;
    static final int KIND = 4;
    static final int COPY = 5;
    static final int SILENT = 6;
    static final int NUMBER = 7;
    static final int THERE = 8;
    static final int LOOSE = 9;
    static final int HIGH = 10;
    static final int MUCH = 11;
    static final int TAKEN = 12;
    static final int CLASH = 13;
    static final int HOT = 14;
    static final int HEAVY = 15;
    static final int BURDENED = 16;
    static final int NOTHING = 17;
    static final int RUNNING = 18;
    static final int OTHER = 19;

    static final int CLOTH = 0;
    static final int BORDER = 1;
    static final int LAMP = 2;
    static final int SET = 3;
    static final int FLYER = 4;

    static final int NONE = -1000000000;

    private int wrong = 0;
    private String promise = "";

    /** Bars from 0 on with two strong lines each, at their outermost places. */
    static RiggingLoft strong(int bars, int places, int gap) {
        RiggingLoft x = new RiggingLoft();
        for (int bar = 0; bar < bars; bar++) {
            x.bar(bar, places, gap);
            x.line(bar, 0, 1, 30000);
            x.line(bar, places - 1, 1, 30000);
        }
        return x;
    }

    void promise(int number) {
        promise = "promise " + number;
    }

    void is(String call, long got, long want) {
        if (got != want) {
            wrong++;
            System.out.println(promise + ": " + call + " answered " + got + ", due is " + want);
        }
    }

    void isDouble(String call, double got, double want) {
        if (got != want) {
            wrong++;
            System.out.println(promise + ": " + call + " answered " + got + ", due is " + want);
        }
    }

    /** An act that was just done, and so has no finding. */
    void done(RiggingLoft x, String call, int got, int want) {
        is(call, got, want);
        is(call + ", status(0)", x.status(0), 0);
        is(call + ", status(1)", x.status(1), 0);
    }

    /** An act that was just refused. */
    void no(RiggingLoft x, String call, int got, int finding) {
        no(x, call, got, finding, 0);
    }

    void no(RiggingLoft x, String call, int got, int finding, int subject) {
        is(call, got, NONE);
        is(call + ", status(0)", x.status(0), finding);
        is(call + ", status(1)", x.status(1), subject);
    }

    void end() {
        System.out.println(wrong == 0 ? "all answers are as due" : wrong + " answers are not as due");
        if (wrong != 0) {
            System.exit(1);
        }
    }
}
