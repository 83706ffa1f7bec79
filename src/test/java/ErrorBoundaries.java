/** The sentences of the section "Error codes", which all promises share. */
final class ErrorBoundaries {
    private static final int UNKNOWN = Trial.UNKNOWN, BAD = Trial.BAD, LATE = Trial.LATE, FULL = Trial.FULL;
    private static final int NONE = Trial.NONE;

    private ErrorBoundaries() { }

    static void run() {
        constants();
        unknown();
        bad();
        late();
        full();
        order();
        noneIsNoError();
    }

    private static void constants() {
        Trial.of(1, "public static final int UNKNOWN = -1, BAD = -2, LATE = -3, FULL = -4, NONE = -9;");
        Due.is("UNKNOWN", PeriodSlots.UNKNOWN, -1);
        Due.is("BAD", PeriodSlots.BAD, -2);
        Due.is("LATE", PeriodSlots.LATE, -3);
        Due.is("FULL", PeriodSlots.FULL, -4);
        Due.is("NONE", PeriodSlots.NONE, -9);
    }

    private static void unknown() {
        Trial t = Trial.of(7, "UNKNOWN (-1): there is no such station or slot.");
        String[] ofStations = {
            "station(#, 0)", "turn(#, 0)", "turn(0, #)", "lay(#, 0)", "shift(#, 0)", "join(#, 0)", "join(0, #)",
            "shifted(#, 0)", "awake(#, 0)", "arrives(#, 0, 0)", "arrives(0, #, 0)", "see(#, 0, 0)", "which(#)",
            "share(#, true)", "share(#, false)"};
        for (String call : ofStations) {
            t.fresh().refusesOutside(call, 0, -1, UNKNOWN).refuses(call.replace("#", "7"), UNKNOWN);
            t.rich().refusesOutside(call, 0, 3, UNKNOWN).refuses(call.replace("#", "7"), UNKNOWN);
        }
        t.fresh().refusesOutside("plan(#)", -1, -1, UNKNOWN);
        t.rich().refusesOutside("plan(#)", -1, 3, UNKNOWN);
        t.rich().refusesOutside("keep(#)", 0, 1, UNKNOWN).refusesOutside("again(#)", 0, 1, UNKNOWN);
    }

    private static void bad() {
        Trial t = Trial.of(9, "BAD (-2): another argument is out of range, or two stations that must differ are the same.");
        t.rich().refusesOutside("write(#)", 0, 255, BAD).refusesOutside("about(#)", 0, 10, BAD);
        t.refusesOutside("station(0, #)", 0, 9, BAD).refusesOutside("shift(0, #)", 0, 7, BAD);
        t.refusesOutside("lay(3, #)", 0, 3, BAD).refusesOutside("ahead(#)", 0, 3, BAD);
        t.refusesOutside("shifted(0, #)", 0, 7, BAD).refusesOutside("awake(0, #)", 0, 3, BAD);
        t.refusesOutside("arrives(0, 1, #)", 0, 7, BAD).refusesOutside("judge(#, 5000)", 1, 4, BAD);
        t.refusesOutside("judge(1, #)", 0, 9999, BAD).refusesOutside("see(0, #, 0)", 0, 7, BAD);
        t.refusesOutside("see(0, 0, #)", 0, 2, BAD).refusesOutside("off(#, true)", 0, 10, BAD);
        t.refusesOutside("drawn(#)", 1, 10, BAD);
        t.refuses("turn(0, 0)", BAD).refuses("turn(3, 3)", BAD).refuses("join(0, 0)", BAD).refuses("join(3, 3)", BAD);
        // Where they need not differ, they may be the same.
        t.is("arrives(3, 3, 0)", 0);
    }

    private static void late() {
        Trial t = Trial.of(14, "LATE (-3): the call is not possible now.");
        t.refuses("undo()", LATE).refuses("again(0)", LATE).refuses("again(1)", LATE);
        t.is("round()", 0).is("undo()", 0).is("keep(1)", 0).is("again(1)", 0).refuses("again(0)", LATE);
        t.rich().type("L").refuses("field()", LATE).refuses("join(0, 2)", LATE).is("again(0)", 4).refuses("undo()", LATE);
    }

    private static void full() {
        Trial t = Trial.of(21, "FULL (-4): a capacity would be exceeded.");
        t.rich().type("x".repeat(91)).is("write(0)", 110).refuses("write(0)", FULL).refuses("write(83)", FULL);
        t.rich().times(3, "see(3, 3, 0)").is("see(0, 0, 0)", 6).refuses("see(0, 0, 0)", FULL).is("unsee()", 6);
    }

    private static void order() {
        Trial t = Trial.of(21, "Each method names its errors in the order in which they are checked; the first that applies"
            + " is returned, and nothing is changed then.");
        String[] unknownAndBad = {
            "station(4, 10)", "station(-1, -1)", "turn(4, 4)", "turn(-1, -1)", "lay(4, 8)", "lay(-1, -1)", "shift(4, 8)",
            "shift(-1, -1)", "join(4, 4)", "join(-1, -1)", "shifted(4, 8)", "shifted(-1, -1)", "awake(4, 4)",
            "awake(-1, -1)", "arrives(4, 0, 8)", "arrives(0, 4, 8)", "arrives(4, 4, -1)", "see(4, 8, 0)", "see(4, 0, 3)",
            "see(-1, -1, -1)"};
        t.rich();
        for (String call : unknownAndBad) {
            t.refuses(call, UNKNOWN);
        }
        // A station is in the same net as itself, but it is no other station first.
        t.refuses("join(1, 1)", BAD).refuses("join(1, 2)", LATE);
        t.times(4, "see(0, 0, 0)").refuses("see(4, 0, 0)", UNKNOWN).refuses("see(4, 8, 3)", UNKNOWN);
        t.refuses("see(0, 8, 0)", BAD).refuses("see(0, 0, 3)", BAD).refuses("see(0, 0, 2)", FULL);
        t.fresh().refuses("again(2)", UNKNOWN).refuses("again(-1)", UNKNOWN).refuses("again(1)", LATE);
        t.type("x".repeat(110)).refuses("write(256)", BAD).refuses("write(-1)", BAD).refuses("write(255)", FULL);
    }

    private static void noneIsNoError() {
        Trial t = Trial.of(15, "NONE (-9) is no error; it means that there is no such thing, and it is returned only if no"
            + " error applies.");
        t.leaves("fault()", NONE).made("S1-").leaves("station(0, 1)", NONE).leaves("station(0, 2)", NONE);
        t.refuses("station(1, 1)", UNKNOWN).refuses("station(1, 2)", UNKNOWN).is("lay(0, -9)", NONE).is("about(8)", 1);
        t.made(ActBoundaries.RESTLESS).leaves("ahead(0)", NONE).refuses("ahead(4)", BAD).leaves("plan(0)", NONE);
        t.refuses("plan(6)", UNKNOWN).leaves("arrives(0, 1, 0)", NONE).refuses("arrives(0, 1, 8)", BAD);
        t.refuses("arrives(0, 6, 0)", UNKNOWN).leaves("judge(1, 5000)", NONE).refuses("judge(5, 5000)", BAD);
        t.is("run()", NONE).is("about(8)", 1).is("about(3)", 40).is("undo()", 0);
    }
}
