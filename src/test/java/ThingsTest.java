/** Things, hanging and shifting: promises 7 to 10 and 13, with CLASH, HOT and HEAVY of the terms. */
public final class ThingsTest {
    private static final int MIN = Integer.MIN_VALUE;
    private static final int MAX = Integer.MAX_VALUE;
    private static final Due due = new Due();

    public static void main(String[] args) {
        thing();
        thingMuch();
        heat();
        hangFindings();
        hangFlyerFindings();
        hangClash();
        hangClashOfHigh();
        hangHot();
        hangHeavy();
        strike();
        shiftFindings();
        shiftTaken();
        shiftCarries();
        shiftClash();
        shiftHot();
        shiftHeavy();
        due.end();
    }

    /** Brings a bar without things up by so many units. */
    private static void lift(RiggingLoft x, int bar, int units) {
        x.cue(bar, 1, x.told(9), units);
        x.go(units);
    }

    private static void thing() {
        due.promise(7);
        RiggingLoft x = new RiggingLoft();
        due.no(x, "kind -1", x.thing(-1, 1, 1, 0), Due.NUMBER);
        due.no(x, "kind 5", x.thing(5, 1, 1, 0), Due.NUMBER);
        due.no(x, "depth 0", x.thing(0, 0, 1, 0), Due.NUMBER);
        due.no(x, "depth 16", x.thing(0, 16, 1, 0), Due.NUMBER);
        due.no(x, "tallness 0", x.thing(0, 1, 0, 0), Due.NUMBER);
        due.no(x, "tallness 41", x.thing(0, 1, 41, 0), Due.NUMBER);
        due.no(x, "a BORDER's tallness 7", x.thing(Due.BORDER, 1, 7, 0), Due.NUMBER);
        due.no(x, "a BORDER's tallness 0", x.thing(Due.BORDER, 1, 0, 0), Due.NUMBER);
        due.no(x, "eighths -1", x.thing(0, 1, 1, -1), Due.NUMBER);
        due.no(x, "eighths 400001", x.thing(0, 1, 1, 400001), Due.NUMBER);
        due.no(x, "MIN everywhere", x.thing(MIN, MIN, MIN, MIN), Due.NUMBER);
        due.no(x, "MAX everywhere", x.thing(MAX, MAX, MAX, MAX), Due.NUMBER);
        due.done(x, "a CLOTH", x.thing(Due.CLOTH, 1, 1, 0), 0);
        due.done(x, "a BORDER", x.thing(Due.BORDER, 15, 6, 400000), 1);
        due.done(x, "a LAMP", x.thing(Due.LAMP, 2, 40, 7), 2);
        due.done(x, "a SET", x.thing(Due.SET, 15, 40, 8), 3);
        due.done(x, "a FLYER", x.thing(Due.FLYER, 15, 40, 31), 4);
        due.is("told(2)", x.told(2), 5);
        due.is("told(3)", x.told(3), 0);
    }

    private static void thingMuch() {
        RiggingLoft x = new RiggingLoft();
        for (int i = 0; i < 80; i++) {
            due.is("a thing more", x.thing(i % 5, 1, 1, i), i);
        }
        due.no(x, "the 81st thing", x.thing(0, 1, 1, 0), Due.MUCH);
        due.no(x, "NUMBER ahead of MUCH", x.thing(0, 0, 1, 0), Due.NUMBER);
        due.is("of(79, 0)", x.of(79, 0), 4);
        due.is("of(80, 0)", x.of(80, 0), Due.NONE);
    }

    private static void heat() {
        due.promise(8);
        RiggingLoft x = Due.strong(1, 10, 10);
        due.no(x, "no thing was told", x.heat(0, 1), Due.BEYOND);
        x.thing(Due.CLOTH, 1, 5, 8);
        x.thing(Due.LAMP, 1, 5, 8);
        x.thing(Due.BORDER, 1, 5, 8);
        due.no(x, "heat(-1, ..)", x.heat(-1, 1), Due.BEYOND);
        due.no(x, "heat(3, ..)", x.heat(3, 1), Due.BEYOND);
        due.no(x, "no LAMP", x.heat(0, -1), Due.KIND);
        due.no(x, "heat -1", x.heat(1, -1), Due.NUMBER);
        due.no(x, "heat 80001", x.heat(1, 80001), Due.NUMBER);
        due.done(x, "heat 80000, hanging nowhere", x.heat(1, 80000), 0);
        due.done(x, "heat 1", x.heat(1, 1), 80000);
        due.is("it is hot", x.of(1, 6), 1);
        due.done(x, "heat 0", x.heat(1, 0), 1);
        due.is("it is not hot", x.of(1, 6), 0);
        x.hang(2, 0, 2);
        x.hang(1, 0, 4);
        x.hang(0, 0, 6);
        due.no(x, "2 places from both", x.heat(1, 8), Due.HOT, 0);
        due.is("it stays as it was", x.of(1, 6), 0);
        due.done(x, "heat 0 is never too hot", x.heat(1, 0), 0);
        x.strike(0);
        due.no(x, "2 places from the BORDER", x.heat(1, 8), Due.HOT, 2);
        x.strike(2);
        x.hang(0, 0, 7);
        x.hang(2, 0, 1);
        due.done(x, "3 places from both", x.heat(1, 8), 0);
    }

    private static void hangFindings() {
        due.promise(9);
        RiggingLoft x = Due.strong(1, 6, 10);
        due.no(x, "no thing was told", x.hang(0, 0, 0), Due.BEYOND);
        x.thing(Due.CLOTH, 1, 5, 8);
        x.thing(Due.SET, 1, 5, 8);
        due.no(x, "hang(-1, ..)", x.hang(-1, 0, 0), Due.BEYOND);
        due.no(x, "hang(2, ..)", x.hang(2, 0, 0), Due.BEYOND);
        due.no(x, "bar -1", x.hang(0, -1, 0), Due.BEYOND);
        due.no(x, "bar 12", x.hang(0, 12, 0), Due.BEYOND);
        due.no(x, "bar MAX", x.hang(0, MAX, 0), Due.BEYOND);
        due.no(x, "bar 1 is not rigged, place is none", x.hang(0, 1, 99), Due.MISSING);
        due.no(x, "place -1", x.hang(0, 0, -1), Due.BEYOND);
        due.no(x, "place 6", x.hang(0, 0, 6), Due.BEYOND);
        due.done(x, "hang(0, 0, 5)", x.hang(0, 0, 5), 1);
        due.no(x, "it hangs, and there is no such bar", x.hang(0, 77, 5), Due.THERE);
        due.no(x, "a thing is there", x.hang(1, 0, 5), Due.TAKEN);
        x.hook(0, 4, true);
        due.no(x, "a hook is there", x.hang(1, 0, 4), Due.TAKEN);
        due.done(x, "hang(1, 0, 0)", x.hang(1, 0, 0), 2);
        x.strike(1);
        x.cue(0, 1, 0, 1);
        x.go(1);
        due.no(x, "HIGH ahead of TAKEN", x.hang(1, 0, 5), Due.HIGH);
        due.no(x, "BEYOND ahead of HIGH", x.hang(1, 0, 6), Due.BEYOND);
        due.is("of(1, 3)", x.of(1, 3), Due.NONE);
    }

    private static void hangFlyerFindings() {
        RiggingLoft x = new RiggingLoft();
        x.thing(Due.FLYER, 1, 5, 16);
        x.thing(Due.CLOTH, 1, 5, 8);
        x.bar(11, 6, 10);
        due.no(x, "there is no bar 12", x.hang(0, 11, 0), Due.BEYOND);
        due.no(x, "there is no bar behind bar MAX", x.hang(0, MAX, 0), Due.BEYOND);
        due.no(x, "there is no bar -1", x.hang(0, -1, 0), Due.BEYOND);
        due.no(x, "bar 10 is not rigged", x.hang(0, 10, 9), Due.MISSING);
        x.bar(9, 6, 10);
        due.no(x, "bar 10 is not rigged", x.hang(0, 9, 9), Due.MISSING);
        x.bar(10, 4, 10);
        due.no(x, "bar 10 has no place 4", x.hang(0, 9, 4), Due.BEYOND);
        due.no(x, "bar 10 has no place 4", x.hang(0, 10, 4), Due.BEYOND);
        lift(x, 11, 1);
        x.hook(10, 1, true);
        due.no(x, "bar 11 is high, ahead of TAKEN", x.hang(0, 10, 1), Due.HIGH);
        due.no(x, "bar 10 has a hook", x.hang(0, 9, 1), Due.TAKEN);
        due.no(x, "the least bar that is not held", x.hang(0, 9, 2), Due.HEAVY, 9);
        x.line(9, 2, 1, 30000);
        due.no(x, "bar 10 is not held", x.hang(0, 9, 2), Due.HEAVY, 10);
        x.line(10, 2, 1, 30000);
        due.done(x, "hang(0, 9, 2)", x.hang(0, 9, 2), 1);
        due.is("on bar 9", x.at(9, 2), 2);
        due.is("on bar 10", x.at(10, 2), 2);
        due.is("its lesser bar", x.of(0, 3), 9);
        due.is("things that hang", x.told(3), 1);
        due.no(x, "the FLYER is in the place", x.hang(1, 10, 2), Due.TAKEN);
        x.line(10, 0, 1, 30000);
        due.done(x, "beside the FLYER", x.hang(1, 10, 3), 2);
    }

    private static void hangClash() {
        RiggingLoft x = Due.strong(3, 6, 10);
        x.thing(Due.CLOTH, 5, 40, 8);
        x.thing(Due.CLOTH, 5, 40, 8);
        x.thing(Due.CLOTH, 6, 40, 8);
        x.thing(Due.SET, 5, 40, 8);
        x.thing(Due.FLYER, 4, 40, 16);
        x.thing(Due.FLYER, 5, 40, 16);
        x.hang(0, 0, 3);
        due.done(x, "CLOTHS whose depths are just the gap", x.hang(1, 1, 3), 1);
        x.strike(1);
        x.thing(Due.LAMP, 5, 40, 8);
        x.thing(Due.BORDER, 5, 6, 8);
        due.done(x, "a LAMP, just the gap", x.hang(6, 1, 3), 1);
        x.strike(6);
        due.done(x, "a BORDER, just the gap", x.hang(7, 1, 3), 1);
        x.strike(7);
        due.no(x, "depths above the gap", x.hang(2, 1, 3), Due.CLASH, 0);
        due.done(x, "in another place", x.hang(2, 1, 4), 1);
        x.strike(2);
        due.no(x, "a SET, just the gap", x.hang(3, 1, 3), Due.CLASH, 0);
        due.no(x, "a FLYER, just the gap", x.hang(5, 1, 3), Due.CLASH, 0);
        due.done(x, "a FLYER does not clash with itself", x.hang(5, 1, 4), 1);
        due.done(x, "a FLYER below the gap", x.hang(4, 1, 3), 2);
        x.strike(4);
        x.strike(0);
        x.hang(1, 2, 3);
        due.no(x, "the neighbour above in number", x.hang(2, 1, 3), Due.CLASH, 1);
        x.hang(0, 0, 3);
        due.no(x, "the least of both neighbours'", x.hang(2, 1, 3), Due.CLASH, 0);
        x.strike(0);
        x.strike(1);
        x.hang(1, 0, 3);
        x.hang(0, 2, 3);
        due.no(x, "the least of both neighbours', the other way round", x.hang(2, 1, 3), Due.CLASH, 0);
        RiggingLoft y = new RiggingLoft();
        y.bar(0, 6, 20);
        y.bar(1, 6, 7);
        y.bar(2, 3, 30);
        y.line(1, 0, 1, 30000);
        y.line(1, 5, 1, 30000);
        y.line(2, 1, 1, 30000);
        y.line(0, 1, 1, 30000);
        y.thing(Due.SET, 4, 40, 8);
        y.thing(Due.SET, 4, 40, 8);
        y.thing(Due.SET, 4, 40, 8);
        y.hang(0, 1, 1);
        due.no(y, "the gap is that of the lesser bar, 7", y.hang(1, 2, 1), Due.CLASH, 0);
        due.done(y, "the gap is that of the lesser bar, 20", y.hang(1, 0, 1), 1);
        due.done(y, "a place that the neighbour does not have", y.hang(2, 1, 5), 2);
    }

    private static void hangClashOfHigh() {
        RiggingLoft x = Due.strong(2, 6, 2);
        x.thing(Due.SET, 2, 10, 8);
        x.thing(Due.SET, 2, 40, 8);
        x.hang(0, 0, 2);
        lift(x, 0, 9);
        due.no(x, "the lower end at -1 is below the upper one at 0", x.hang(1, 1, 2), Due.CLASH, 0);
        lift(x, 0, 1);
        due.done(x, "the lower end at 0 is not below the upper one at 0", x.hang(1, 1, 2), 1);
    }

    private static void hangHot() {
        RiggingLoft x = Due.strong(2, 12, 30);
        x.thing(Due.LAMP, 1, 5, 8);
        x.thing(Due.CLOTH, 1, 5, 8);
        x.thing(Due.BORDER, 1, 5, 8);
        x.thing(Due.SET, 1, 5, 8);
        x.thing(Due.LAMP, 1, 5, 8);
        x.heat(0, 1);
        x.hang(0, 0, 5);
        due.no(x, "a CLOTH 2 places behind", x.hang(1, 0, 7), Due.HOT, 1);
        due.no(x, "a BORDER 2 places ahead", x.hang(2, 0, 3), Due.HOT, 2);
        due.done(x, "a SET beside it", x.hang(3, 0, 6), 2);
        due.done(x, "a cold LAMP beside it", x.hang(4, 0, 4), 3);
        due.done(x, "a CLOTH 3 places behind", x.hang(1, 0, 8), 4);
        due.done(x, "a BORDER on another bar", x.hang(2, 1, 5), 1);
        x.strike(2);
        due.done(x, "a BORDER 3 places ahead", x.hang(2, 0, 2), 5);
        x.strike(0);
        x.strike(3);
        due.no(x, "the LAMP would scorch the CLOTH", x.hang(0, 0, 6), Due.HOT, 1);
        due.no(x, "the LAMP would scorch the BORDER", x.hang(0, 0, 3), Due.HOT, 2);
        x.strike(1);
        x.hang(1, 0, 3);
        due.no(x, "the least of both", x.hang(0, 0, 1), Due.HOT, 1);
        RiggingLoft y = new RiggingLoft();
        y.bar(0, 5, 5);
        y.bar(1, 5, 5);
        y.line(0, 2, 1, 10);
        y.line(1, 2, 1, 10);
        y.thing(Due.CLOTH, 3, 5, 800);
        y.thing(Due.LAMP, 1, 5, 0);
        y.thing(Due.CLOTH, 3, 5, 8);
        y.heat(1, 1);
        y.hang(1, 0, 2);
        y.hang(2, 1, 2);
        y.strike(1);
        y.hang(1, 0, 2);
        due.no(y, "HOT ahead of HEAVY", y.hang(0, 0, 1), Due.HOT, 0);
        y.strike(1);
        due.no(y, "CLASH ahead of HEAVY", y.hang(0, 0, 2), Due.CLASH, 2);
        y.strike(2);
        due.no(y, "HEAVY", y.hang(0, 0, 2), Due.HEAVY, 0);
    }

    private static void hangHeavy() {
        RiggingLoft x = new RiggingLoft();
        x.bar(3, 7, 9);
        x.thing(Due.CLOTH, 1, 1, 0);
        x.thing(Due.CLOTH, 1, 1, 807);
        x.thing(Due.CLOTH, 1, 1, 808);
        x.thing(Due.CLOTH, 1, 1, 8);
        due.no(x, "no line, though the thing weighs nothing", x.hang(0, 3, 3), Due.HEAVY, 3);
        x.line(3, 3, 2, 100);
        due.done(x, "100 grams and 7 eighths on one line of 100", x.hang(1, 3, 3), 1);
        x.strike(1);
        due.no(x, "101 grams on one line of 100", x.hang(2, 3, 3), Due.HEAVY, 3);
        due.done(x, "what weighs nothing turns no bar", x.hang(0, 3, 6), 1);
        due.no(x, "a bar that turns", x.hang(3, 3, 2), Due.HEAVY, 3);
        x.strike(0);
        x.line(3, 5, 1, 51);
        due.done(x, "half of 101 on 51", x.hang(2, 3, 4), 1);
        x.wear(1, 0, 1);
        due.is("half of 101 on 50", x.barOf(3, 7), 0);
        x.strike(2);
        due.no(x, "half of 101 on 50", x.hang(2, 3, 4), Due.HEAVY, 3);
        due.no(x, "beyond the outermost line, which bears all", x.hang(1, 3, 6), Due.HEAVY, 3);
        due.done(x, "beyond the outermost line on the other side", x.hang(1, 3, 0), 1);
        due.no(x, "101 more there", x.hang(2, 3, 1), Due.HEAVY, 3);
        due.no(x, "1 more there", x.hang(3, 3, 3), Due.HEAVY, 3);
        due.done(x, "1 more at the other line", x.hang(3, 3, 5), 2);
    }

    private static void strike() {
        due.promise(10);
        RiggingLoft x = Due.strong(2, 6, 30);
        due.no(x, "no thing was told", x.strike(0), Due.BEYOND);
        x.thing(Due.FLYER, 1, 5, 16);
        x.thing(Due.CLOTH, 1, 5, 8);
        due.no(x, "strike(-1)", x.strike(-1), Due.BEYOND);
        due.no(x, "strike(2)", x.strike(2), Due.BEYOND);
        due.no(x, "it does not hang", x.strike(0), Due.LOOSE);
        x.hang(0, 0, 4);
        x.hang(1, 1, 2);
        due.done(x, "strike(1)", x.strike(1), 2);
        due.is("at(1, 2)", x.at(1, 2), 0);
        due.no(x, "strike(1) twice", x.strike(1), Due.LOOSE);
        lift(x, 1, 1);
        due.no(x, "its bars are high", x.strike(0), Due.HIGH);
        x.cue(0, -1, 1, 1);
        x.go(1);
        due.done(x, "strike(0)", x.strike(0), 4);
        due.is("at(0, 4)", x.at(0, 4), 0);
        due.is("at(1, 4)", x.at(1, 4), 0);
        due.is("of(0, 3)", x.of(0, 3), Due.NONE);
        due.is("of(0, 4)", x.of(0, 4), Due.NONE);
        RiggingLoft y = new RiggingLoft();
        y.bar(0, 5, 5);
        y.line(0, 2, 1, 9999);
        y.thing(0, 1, 1, 80);
        y.thing(0, 1, 1, 80);
        y.line(0, 1, 1, 9999);
        y.hang(0, 0, 1);
        y.hang(1, 0, 3);
        y.cut(1);
        due.done(y, "what is left need not be held", y.strike(0), 1);
        due.is("barOf(0, 7)", y.barOf(0, 7), 0);
    }

    private static void shiftFindings() {
        due.promise(13);
        RiggingLoft x = Due.strong(1, 6, 10);
        due.no(x, "shift(-1, ..)", x.shift(-1, 0, 0, 0), Due.BEYOND);
        due.no(x, "shift(12, ..)", x.shift(12, 0, 0, 0), Due.BEYOND);
        due.no(x, "not rigged", x.shift(1, -1, 0, 0), Due.MISSING);
        due.no(x, "n -1", x.shift(0, 0, 0, -1), Due.COPY);
        due.no(x, "from -1", x.shift(0, -1, 0, 1), Due.COPY);
        due.no(x, "to -1", x.shift(0, 0, -1, 1), Due.COPY);
        due.no(x, "from -1, none carried", x.shift(0, -1, 0, 0), Due.COPY);
        due.no(x, "from and n 7", x.shift(0, 5, 0, 2), Due.COPY);
        due.no(x, "to and n 7", x.shift(0, 0, 5, 2), Due.COPY);
        due.no(x, "from 7", x.shift(0, 7, 0, 0), Due.COPY);
        due.no(x, "n 7", x.shift(0, 0, 0, 7), Due.COPY);
        due.no(x, "MAX and MAX", x.shift(0, MAX, MAX, MAX), Due.COPY);
        due.no(x, "1 and MAX", x.shift(0, 1, 1, MAX), Due.COPY);
        due.no(x, "MIN", x.shift(0, MIN, MIN, MIN), Due.COPY);
        due.done(x, "none, behind the last place", x.shift(0, 6, 6, 0), 0);
        due.done(x, "nothing for nothing", x.shift(0, 0, 3, 3), 0);
        due.done(x, "all onto itself", x.shift(0, 0, 0, 6), 0);
        lift(x, 0, 1);
        due.no(x, "HIGH ahead of COPY", x.shift(0, -1, 0, 0), Due.HIGH);
    }

    private static void shiftTaken() {
        RiggingLoft x = Due.strong(2, 8, 30);
        x.thing(Due.FLYER, 1, 5, 16);
        x.thing(Due.CLOTH, 1, 5, 8);
        x.thing(Due.CLOTH, 1, 5, 8);
        x.hang(0, 0, 6);
        x.hang(1, 0, 1);
        x.hook(0, 4, true);
        due.no(x, "a hook would be carried", x.shift(0, 3, 2, 2), Due.TAKEN);
        due.no(x, "a hook onto itself", x.shift(0, 4, 4, 1), Due.TAKEN);
        due.no(x, "a FLYER would be carried", x.shift(0, 6, 7, 1), Due.TAKEN);
        due.no(x, "a FLYER on its second bar", x.shift(1, 6, 7, 1), Due.TAKEN);
        due.no(x, "onto a hook, if only nothing", x.shift(0, 2, 4, 1), Due.TAKEN);
        due.no(x, "onto a thing, if only nothing", x.shift(0, 2, 1, 1), Due.TAKEN);
        due.no(x, "onto a FLYER", x.shift(0, 0, 5, 2), Due.TAKEN);
        due.done(x, "between them", x.shift(0, 0, 2, 2), 1);
        due.is("at(0, 3)", x.at(0, 3), 3);
        due.is("at(0, 1)", x.at(0, 1), 0);
        due.no(x, "onto what is not carried", x.shift(0, 2, 3, 1), Due.TAKEN);
        due.done(x, "the place behind those carried has a hook", x.shift(0, 3, 2, 1), 1);
        due.done(x, "and it does not matter", x.shift(0, 2, 1, 2), 1);
        due.is("the hook is there still", x.at(0, 4), 1);
    }

    private static void shiftCarries() {
        RiggingLoft x = Due.strong(1, 8, 30);
        for (int i = 0; i < 3; i++) {
            x.thing(Due.CLOTH, 1, 5, 8);
        }
        x.hang(0, 0, 1);
        x.hang(1, 0, 2);
        x.hang(2, 0, 4);
        due.done(x, "up by one, over itself", x.shift(0, 1, 2, 4), 3);
        due.is("at(0, 1)", x.at(0, 1), 0);
        due.is("at(0, 2)", x.at(0, 2), 2);
        due.is("at(0, 3)", x.at(0, 3), 3);
        due.is("at(0, 4)", x.at(0, 4), 0);
        due.is("at(0, 5)", x.at(0, 5), 4);
        due.is("of(2, 4)", x.of(2, 4), 5);
        due.done(x, "down by two, over itself", x.shift(0, 2, 0, 4), 3);
        due.is("at(0, 0)", x.at(0, 0), 2);
        due.is("at(0, 1)", x.at(0, 1), 3);
        due.is("at(0, 2)", x.at(0, 2), 0);
        due.is("at(0, 3)", x.at(0, 3), 4);
        due.is("at(0, 5)", x.at(0, 5), 0);
        due.done(x, "onto itself", x.shift(0, 0, 0, 8), 3);
        due.done(x, "a part", x.shift(0, 1, 5, 3), 2);
        due.is("at(0, 5)", x.at(0, 5), 3);
        due.is("at(0, 7)", x.at(0, 7), 4);
        due.is("of(0, 4)", x.of(0, 4), 0);
        due.done(x, "the thing behind those carried stays", x.shift(0, 3, 1, 2), 0);
        due.is("at(0, 5)", x.at(0, 5), 3);
        due.is("of(1, 4)", x.of(1, 4), 5);
        due.is("of(1, 3)", x.of(1, 3), 0);
        due.done(x, "a thing struck where it was carried to", x.strike(1), 5);
    }

    private static void shiftClash() {
        RiggingLoft x = Due.strong(3, 8, 6);
        for (int i = 0; i < 5; i++) {
            x.thing(Due.SET, 3, 5, 8);
        }
        x.hang(4, 0, 5);
        x.hang(3, 2, 6);
        x.hang(0, 1, 1);
        x.hang(1, 1, 2);
        due.no(x, "the least with which one would clash", x.shift(1, 1, 5, 2), Due.CLASH, 3);
        due.no(x, "below in number alone", x.shift(1, 1, 4, 2), Due.CLASH, 4);
        due.is("all stays", x.at(1, 1), 2);
        due.done(x, "beside them", x.shift(1, 1, 3, 2), 2);
        due.done(x, "nothing clashes with nothing", x.shift(1, 5, 0, 3), 0);
    }

    private static void shiftHot() {
        RiggingLoft x = Due.strong(1, 12, 6);
        x.thing(Due.LAMP, 3, 5, 8);
        x.thing(Due.BORDER, 3, 5, 8);
        x.thing(Due.CLOTH, 3, 5, 8);
        x.thing(Due.CLOTH, 3, 5, 8);
        x.heat(0, 9);
        x.hang(0, 0, 6);
        x.hang(2, 0, 0);
        x.hang(1, 0, 1);
        x.hang(3, 0, 10);
        due.no(x, "both come too near", x.shift(0, 0, 4, 2), Due.HOT, 1);
        due.no(x, "the LAMP comes too near to one that stays", x.shift(0, 6, 8, 1), Due.HOT, 3);
        due.done(x, "to 3 places from it", x.shift(0, 0, 2, 2), 2);
        due.done(x, "all together", x.shift(0, 2, 1, 6), 3);
    }

    private static void shiftHeavy() {
        RiggingLoft x = new RiggingLoft();
        x.bar(2, 9, 6);
        x.line(2, 4, 1, 1000);
        x.thing(Due.SET, 3, 5, 8);
        x.thing(Due.SET, 3, 5, 8);
        x.thing(Due.SET, 3, 5, 16);
        x.line(2, 0, 1, 1000);
        x.hang(0, 2, 3);
        x.hang(1, 2, 5);
        x.cut(1);
        due.is("barOf(2, 7)", x.barOf(2, 7), 1);
        due.no(x, "it would turn", x.shift(2, 3, 2, 1), Due.HEAVY, 2);
        due.no(x, "it would turn", x.shift(2, 3, 4, 3), Due.HEAVY, 2);
        x.line(2, 8, 1, 1000);
        x.hang(2, 2, 7);
        x.cut(2);
        due.is("barOf(2, 7)", x.barOf(2, 7), 0);
        due.no(x, "HEAVY also if none is carried", x.shift(2, 0, 0, 0), Due.HEAVY, 2);
        due.no(x, "HEAVY also if nothing is carried", x.shift(2, 0, 1, 1), Due.HEAVY, 2);
        due.no(x, "TAKEN ahead of HEAVY", x.shift(2, 0, 3, 1), Due.TAKEN);
        due.no(x, "it turns still: 1 at 3, 1 at 4, 2 at 6", x.shift(2, 5, 4, 3), Due.HEAVY, 2);
        x.strike(0);
        x.strike(1);
        due.done(x, "back to its line", x.shift(2, 7, 4, 1), 1);
        due.is("barOf(2, 7)", x.barOf(2, 7), 1);
        x.wear(0, 0, 999);
        due.no(x, "more than its line bears", x.shift(2, 0, 0, 9), Due.HEAVY, 2);
    }
}
