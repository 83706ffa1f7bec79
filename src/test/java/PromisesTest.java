/** Each promise by itself: ordinary inputs, edges, wrong inputs. The answers are worked out by hand. */
public final class PromisesTest {
    private static final int UNKNOWN = -1, BAD = -2, LATE = -3, FULL = -4, NONE = -9;
    private static final int MIN = Integer.MIN_VALUE, MAX = Integer.MAX_VALUE;
    // Three stations of period 2, each near to each: only two of them can have an offset.
    private static final String CROWD = "S1aS1aS1aL01L12";
    // Found by a search, and confirmed by the naive model: not quiet after 40 rounds, quiet after just 40.
    private static final String RESTLESS = "S1aS1bS1bS1bS1bS1bL02L12L23L24L25";
    private static final String RESTLESS_WITH_OLDS = "S1aS1-S1aS3-S1-S2cS3-S1aL01L03L04L05L13L14L27L34L45L47L56L67";
    private static final String SLOW = "S2cS2-S1aS1bS2bS2bS1-L02L04L06L12L13L14L15L16L24L25L34L36L46L56";
    private static final String EIGHT = "S1aS1aS1aS1aS1aS1aS1aS1a";

    private PromisesTest() { }

    public static void main(String[] arguments) {
        constants();
        newObject();
        write();
        wipe();
        fault();
        faultOfLinks();
        faultAfterWipe();
        field();
        fieldAfterAnother();
        about();
        station();
        round();
        roundTakesTurns();
        tieOfPriorities();
        turn();
        lay();
        shift();
        join();
        joinMovesTheSmallerNet();
        run();
        undo();
        undoRemembersFourteen();
        ahead();
        plan();
        shifted();
        awake();
        arrives();
        judge();
        judgeDigits();
        judgeActs();
        see();
        which();
        share();
        off();
        seed();
        drawn();
        keepAndAgain();
        Due.end("PromisesTest");
    }

    private static void is(String what, long got, long want) {
        Due.is(what, got, want);
    }

    private static PeriodSlots made(String text) {
        return Due.made(text);
    }

    private static void abouts(String what, PeriodSlots x, int... wants) {
        for (int k = 0; k < wants.length; k++) {
            is(what + ": about(" + k + ")", x.about(k), wants[k]);
        }
    }

    private static void stations(String what, PeriodSlots x, int v, int... wants) {
        for (int k = 0; k < wants.length; k++) {
            is(what + ": station(" + v + ", " + k + ")", x.station(v, k), wants[k]);
        }
    }

    private static void offsets(String what, PeriodSlots x, int... wants) {
        for (int v = 0; v < wants.length; v++) {
            is(what + ": offset of " + v, x.station(v, 1), wants[v]);
        }
    }

    private static void olds(String what, PeriodSlots x, int... wants) {
        for (int v = 0; v < wants.length; v++) {
            is(what + ": old offset of " + v, x.station(v, 2), wants[v]);
        }
    }

    private static void constants() {
        is("UNKNOWN", PeriodSlots.UNKNOWN, UNKNOWN);
        is("BAD", PeriodSlots.BAD, BAD);
        is("LATE", PeriodSlots.LATE, LATE);
        is("FULL", PeriodSlots.FULL, FULL);
        is("NONE", PeriodSlots.NONE, NONE);
    }

    // ---- Promise 1

    private static void newObject() {
        PeriodSlots x = new PeriodSlots();
        abouts("new", x, 0, 0, 0, 0, 0, 0, 1, 0, 0, 0, 0);
        is("new: station(0, 0)", x.station(0, 0), UNKNOWN);
        is("new: fault()", x.fault(), NONE);
        is("new: undo()", x.undo(), LATE);
        is("new: again(0)", x.again(0), LATE);
        is("new: again(1)", x.again(1), LATE);
        is("new: unsee()", x.unsee(), 0);
        is("new: wipe()", x.wipe(), 0);
        is("new: seed(1)", x.seed(1), 0);
        PeriodSlots other = made("S1aS1a");
        is("new: about(0) beside another", new PeriodSlots().about(0), 0);
        is("another: about(0)", other.about(0), 2);
    }

    // ---- Promise 2

    private static void write() {
        PeriodSlots x = new PeriodSlots();
        is("write(-1)", x.write(-1), BAD);
        is("write(256)", x.write(256), BAD);
        is("write(MIN)", x.write(MIN), BAD);
        is("write(MAX)", x.write(MAX), BAD);
        is("about(10) after bad bytes", x.about(10), 0);
        for (int k = 1; k <= 110; k++) {
            is("write as byte " + k, x.write(k % 2 == 0 ? 0 : 255), k);
        }
        is("write as byte 111", x.write(83), FULL);
        is("write(256) when full", x.write(256), BAD);
        is("write(-1) when full", x.write(-1), BAD);
        is("about(10) when full", x.about(10), 110);
        is("fault() when full", x.fault(), 0);
        is("wipe() when full", x.wipe(), 110);
        is("write after wipe", x.write(83), 1);
        is("fault() after write after wipe", x.fault(), 1);
    }

    // ---- Promise 3

    private static void wipe() {
        PeriodSlots x = made("S1aS2b");
        is("wipe()", x.wipe(), 6);
        is("about(10) after wipe", x.about(10), 0);
        is("about(0) after wipe", x.about(0), 2);
        is("wipe() again", x.wipe(), 0);
        is("fault() after wipe", x.fault(), NONE);
        is("field() after wipe", x.field(), 0);
        is("about(0) after wipe and field", x.about(0), 0);
    }

    // ---- Promise 4

    private static void faultIs(String text, int want) {
        is("fault() of " + text, Due.type(new PeriodSlots(), text).fault(), want);
    }

    private static void fault() {
        faultIs("", NONE);
        faultIs("S", 1);
        faultIs("S1", 2);
        faultIs("S1a", NONE);
        faultIs("S1b", NONE);
        faultIs("S1c", 2);
        faultIs("S1-", NONE);
        faultIs("S2d", NONE);
        faultIs("S2e", 2);
        faultIs("S2-", NONE);
        faultIs("S3h", NONE);
        faultIs("S3i", 2);
        faultIs("S3-", NONE);
        faultIs("S3`", 2);
        faultIs("S1A", 2);
        // X stands nine before a, and NONE is -9.
        faultIs("S1X", 2);
        faultIs("S0a", 1);
        faultIs("S4a", 1);
        faultIs("S-", 1);
        faultIs("Sa", 1);
        faultIs("s1a", 0);
        faultIs("1", 0);
        faultIs("\u0000", 0);
        faultIs("\u00ff", 0);
        faultIs("S1a\u00ff", 3);
        faultIs("S1aS", 4);
        faultIs("S1aS2", 5);
        faultIs("S1aX1a", 3);
        faultIs("S9aX", 1);
        faultIs(EIGHT, NONE);
        faultIs(EIGHT + "S", 24);
        faultIs(EIGHT + "S1a", 24);
        faultIs(EIGHT + "L", 25);
        faultIs(EIGHT + "L7", 26);
        faultIs(EIGHT + "L8", 25);
        faultIs(EIGHT + "L78", 26);
        faultIs(EIGHT + "L76", NONE);
        faultIs(EIGHT + "L76S", 27);
    }

    private static void faultAfterWipe() {
        PeriodSlots x = Due.type(new PeriodSlots(), "S1aS2a");
        is("wipe()", x.wipe(), 6);
        Due.type(x, "S");
        is("fault() before what was wiped", x.fault(), 1);
        Due.type(x, "1");
        is("fault() before what was wiped", x.fault(), 2);
        Due.type(x, "b");
        is("fault() of the new text", x.fault(), NONE);
        is("field() of the new text", x.field(), 1);
    }

    private static void faultOfLinks() {
        faultIs("L", 0);
        faultIs("S1aL", 3);
        faultIs("S1aL0", 3);
        faultIs("S1aS1bL", 7);
        faultIs("S1aS1bL2", 7);
        faultIs("S1aS1bL/", 7);
        faultIs("S1aS1b-", 6);
        faultIs("S1aS1bL0", 8);
        faultIs("S1aS1bL00", 8);
        faultIs("S1aS1bL02", 8);
        faultIs("S1aS1bL0/", 8);
        faultIs("S1aS1bL02S1a", 8);
        faultIs("S1aS1bL01", NONE);
        faultIs("S1aS1bL10", NONE);
        faultIs("S1aS1bL01L", 9);
        faultIs("S1aS1bL10L", 9);
        faultIs("S1aL01S1b", 3);
        faultIs("S1aS1bL01S1aL", 13);
        faultIs("S1aS1bL01S1aL0", 14);
        faultIs("S1aS1bL01S1aL01", 14);
        faultIs("S1aS1bL01S1aL10", 14);
        faultIs("S1aS1bL01S1aL02", NONE);
        faultIs("S1aS1bS1aL01L02L0", 16);
        faultIs("S1aS1bS1aL01L02L1", 17);
        faultIs("S1aS1bS1aL01L02L10", 17);
        faultIs("S1aS1bS1aL01L02L12", NONE);
        faultIs("S1aS1bS1aL01L02L12L", 18);
        StringBuilder all = new StringBuilder(EIGHT);
        for (int i = 0; i < 8; i++) {
            for (int j = 0; j < i; j++) {
                all.append('L').append(j).append(i);
            }
        }
        is("length of the longest text", all.length(), 108);
        faultIs(all.toString(), NONE);
        faultIs(all + "L", 108);
        faultIs(all + "S1", 108);
        is("field() of the longest text", made(all.toString()).about(1), 28);
    }

    // ---- Promise 5

    private static void field() {
        PeriodSlots x = made("S1aS2aS3-L01");
        is("see before field", x.see(2, 3, 1), 1);
        is("seed before field", x.seed(77), 0);
        is("keep before field", x.keep(0), 3);
        is("keep(1) before field", x.keep(1), 3);
        is("round before field", x.round(), 2);
        is("about(3) before field", x.about(3), 1);
        is("old offset before field", x.station(0, 2), 0);
        is("write(83)", x.write(83), 13);
        is("field() of a wrong text", x.field(), LATE);
        abouts("after a wrong text", x, 3, 1, 0, 1, 2, 7, 0, 2, 1, 1, 13);
        olds("after a wrong text", x, 0, NONE, NONE);
        is("undo after a wrong text", x.undo(), 0);
        is("again after a wrong text", x.again(0), 3);
        is("round after a wrong text", x.round(), 2);
        Due.type(x, "2c");
        is("field()", x.field(), 4);
        abouts("after field", x, 4, 1, 1, 0, 5, 11, 0, 3, 0, 1, 15);
        offsets("after field", x, 0, 0, NONE, 2);
        olds("after field", x, NONE, NONE, NONE, NONE);
        is("undo after field", x.undo(), LATE);
        is("again(0) after field", x.again(0), LATE);
        is("again(1) after field", x.again(1), LATE);
        is("seed after field", x.seed(0), 77);
        is("which after field", x.which(3), 0);
        is("wipe", x.wipe(), 15);
        is("field() without a text", x.field(), 0);
        abouts("after field without a text", x, 0, 0, 0, 0, 0, 0, 1, 0, 0, 1, 0);
    }

    private static void fieldAfterAnother() {
        PeriodSlots x = made("S1aS1bL01");
        is("round", x.round(), 0);
        is("judge of rounds", x.judge(3, 500050005000L), NONE);
        is("ahead", x.ahead(0), 0);
        is("plan", x.plan(1), 1);
        is("wipe", x.wipe(), 9);
        Due.type(x, "S3cS2-S1b");
        is("field()", x.field(), 3);
        abouts("another", x, 3, 0, 0, 0, 2, 5, 0, 3, 0, 0, 9);
        stations("another", x, 0, 8, 2, NONE, 4, 4, 0, 0, 343, 255, 1);
        stations("another", x, 1, 4, NONE, NONE, 0, 0, 0, 0, 428, 15, 2);
        stations("another", x, 2, 2, 1, NONE, 170, 170, 0, 0, 707, 3, 4);
    }

    // ---- Promise 6

    private static void about() {
        PeriodSlots x = made("S1aS1-S2cS2dL01L23");
        abouts("two nets", x, 4, 2, 0, 0, 2, 13, 0, 2, 0, 0, 18);
        is("about(-1)", x.about(-1), BAD);
        is("about(11)", x.about(11), BAD);
        is("about(MIN)", x.about(MIN), BAD);
        is("about(MAX)", x.about(MAX), BAD);
        abouts("crowd", made(CROWD), 3, 2, 3, 0, 3, 7, 0, 1, 0, 0, 15);
        // Old offsets do not count for conflicts, but they keep the field from being quiet.
        x = made("S1aS2aL01");
        is("round", x.round(), 1);
        abouts("with an old offset", x, 2, 1, 0, 1, 2, 3, 0, 1, 1, 0, 9);
        is("turn", x.turn(0, 1), 0);
        abouts("without links", x, 2, 0, 0, 1, 0, 3, 1, 2, 2, 0, 9);
        abouts("stuck", made("S1aS1bS1-L01L12"), 3, 2, 0, 0, 4, 3, 1, 1, 0, 0, 15);
        abouts("with room", made("S2aS1bS1-L01L12"), 3, 2, 0, 0, 4, 3, 1, 1, 0, 0, 15);
        abouts("with room for a longer period", made("S2aS1bS2-L01L12"), 3, 2, 0, 0, 4, 3, 0, 1, 0, 0, 15);
        abouts("at two links' length", made("S2aS2aS2aS2aL01L12L23"), 4, 3, 5, 0, 11, 15, 0, 1, 0, 0, 21);
        is("nets of eight", made(EIGHT).about(7), 8);
    }

    // ---- Promise 7

    private static void station() {
        PeriodSlots x = made("S2aS3-S1bL01");
        stations("S2a", x, 0, 4, 0, NONE, 17, 17, 2, 2, 343, 15, 3);
        stations("S3-", x, 1, 8, NONE, NONE, 0, 0, 1, 1, 428, 238, 3);
        stations("S1b", x, 2, 2, 1, NONE, 170, 170, 0, 0, 707, 3, 4);
        is("station(-1, 0)", x.station(-1, 0), UNKNOWN);
        is("station(3, 0)", x.station(3, 0), UNKNOWN);
        is("station(3, 10)", x.station(3, 10), UNKNOWN);
        is("station(MAX, 0)", x.station(MAX, 0), UNKNOWN);
        is("station(MIN, MIN)", x.station(MIN, MIN), UNKNOWN);
        is("station(0, -1)", x.station(0, -1), BAD);
        is("station(0, 10)", x.station(0, 10), BAD);
        is("station(0, MIN)", x.station(0, MIN), BAD);
        x = made("S1aS2aL01");
        is("round", x.round(), 1);
        stations("with an old offset", x, 0, 2, 1, 0, 170, 255, 2, 2, 480, 2, 3);
        stations("near an old offset", x, 1, 4, 0, NONE, 17, 17, 1, 1, 436, 0, 3);
        x = made("S3cS3dS3eS3fL01L12L23");
        stations("the end of a chain", x, 0, 8, 2, NONE, 4, 4, 2, 6, 343, 231, 15);
        stations("the middle of a chain", x, 1, 8, 3, NONE, 8, 8, 5, 13, 428, 203, 15);
        int[] priorities = {343, 428, 707, 380, 665, 762, 880, 219};
        for (int v = 0; v < 8; v++) {
            is("priority of " + v, made(EIGHT).station(v, 7), priorities[v]);
        }
    }

    // ---- Promise 8

    private static void round() {
        PeriodSlots x = new PeriodSlots();
        is("round without stations", x.round(), 0);
        is("round number without stations", x.about(3), 1);
        is("acts without stations", x.about(8), 1);
        x = made("S1-S3-");
        is("round from nothing", x.round(), 2);
        offsets("from nothing", x, 0, 0);
        olds("from nothing", x, NONE, NONE);
        is("round without a change", x.round(), 0);
        is("round number", x.about(3), 2);
        is("acts", x.about(8), 2);
        x = made("S1aS2aL01");
        is("round with a conflict", x.round(), 1);
        offsets("the lower one moved", x, 1, 0);
        olds("the lower one moved", x, 0, NONE);
        // Now 480 is above 436: station 1 meets the old offset of station 0, and finds nothing free.
        is("round against an old offset", x.round(), 1);
        offsets("pushed out", x, 1, NONE);
        olds("pushed out", x, NONE, NONE);
        is("round back in", x.round(), 1);
        offsets("back in", x, 1, 0);
        olds("back in", x, NONE, NONE);
    }

    private static void roundTakesTurns() {
        PeriodSlots x = made(CROWD);
        is("round of a crowd", x.round(), 1);
        offsets("station 0 waits for station 1", x, 0, 1, 0);
        olds("station 0 waits for station 1", x, NONE, 0, NONE);
        is("round 2 of a crowd", x.round(), 1);
        offsets("station 0 finds nothing", x, NONE, 1, 0);
        olds("station 0 finds nothing", x, NONE, NONE, NONE);
        is("round 3 of a crowd", x.round(), 0);
        // 6 above 5 above 2 above 4 above 1 above 3 above 0 above 7: the far ends move at once.
        x = made("S3aS3aS3aS3aS3aS3aS3aS3aL01L12L23L34L45L56L67");
        is("round of a chain", x.round(), 2);
        offsets("chain", x, 0, 1, 0, 0, 0, 1, 0, 0);
        x = made("S3-S3-S3-S3-S3-S3-S3-S3-L01L12L23L34L45L56L67");
        is("round of a chain of nothing", x.round(), 2);
        offsets("chain of nothing", x, NONE, NONE, 0, NONE, NONE, NONE, 0, NONE);
    }

    private static void tieOfPriorities() {
        PeriodSlots x = made("S1aS3-S3-S1a");
        for (int k = 0; k < 52; k++) {
            x.round();
        }
        // (7 + 101 * 52) and (7 + 37 * 3 + 101 * 52) have powers with the same remainder.
        is("priority of 0", x.station(0, 7), 936);
        is("priority of 3", x.station(3, 7), 936);
        is("turn", x.turn(0, 3), 1);
        is("unsettled in a tie", x.about(4), 8);
        is("round in a tie", x.round(), 1);
        offsets("round in a tie", x, 0, 0, 0, 1);
    }

    // ---- Promise 9

    private static void turn() {
        PeriodSlots x = made("S1aS2aS3c");
        is("turn(0, 2)", x.turn(0, 2), 1);
        is("neighbours of 0", x.station(0, 5), 4);
        is("neighbours of 2", x.station(2, 5), 1);
        is("turn(2, 0)", x.turn(2, 0), 0);
        is("neighbours of 0", x.station(0, 5), 0);
        is("neighbours of 2", x.station(2, 5), 0);
        is("acts", x.about(8), 2);
        is("turn(1, 1)", x.turn(1, 1), BAD);
        is("turn(3, 3)", x.turn(3, 3), UNKNOWN);
        is("turn(0, 3)", x.turn(0, 3), UNKNOWN);
        is("turn(3, 0)", x.turn(3, 0), UNKNOWN);
        is("turn(-1, 0)", x.turn(-1, 0), UNKNOWN);
        is("turn(MIN, MAX)", x.turn(MIN, MAX), UNKNOWN);
        is("acts after errors", x.about(8), 2);
        is("links after errors", x.about(1), 0);
        x = made("S1aS2aS1aL01");
        is("round", x.round(), 1);
        is("old offset", x.station(0, 2), 0);
        is("turn elsewhere", x.turn(1, 2), 1);
        olds("after turn", x, NONE, NONE, NONE);
        offsets("after turn", x, 1, 0, 0);
        is("round number after turn", x.about(3), 1);
    }

    // ---- Promise 10

    private static void lay() {
        PeriodSlots x = made("S1aS2dS3-");
        is("lay(0, 1)", x.lay(0, 1), 0);
        is("lay(0, 1) again", x.lay(0, 1), 1);
        is("lay(1, NONE)", x.lay(1, NONE), 3);
        is("lay(1, NONE) again", x.lay(1, NONE), NONE);
        is("lay(2, 7)", x.lay(2, 7), NONE);
        offsets("laid", x, 1, NONE, 7);
        is("acts", x.about(8), 5);
        is("lay(0, 2)", x.lay(0, 2), BAD);
        is("lay(1, 4)", x.lay(1, 4), BAD);
        is("lay(2, 8)", x.lay(2, 8), BAD);
        is("lay(2, -1)", x.lay(2, -1), BAD);
        is("lay(2, -8)", x.lay(2, -8), BAD);
        is("lay(2, -10)", x.lay(2, -10), BAD);
        is("lay(2, MIN)", x.lay(2, MIN), BAD);
        is("lay(2, MAX)", x.lay(2, MAX), BAD);
        is("lay(3, 0)", x.lay(3, 0), UNKNOWN);
        is("lay(-1, 99)", x.lay(-1, 99), UNKNOWN);
        is("acts after errors", x.about(8), 5);
        offsets("after errors", x, 1, NONE, 7);
        x = made("S1aS2aS1aL01");
        is("round", x.round(), 1);
        is("lay elsewhere", x.lay(2, 0), 0);
        olds("after lay", x, NONE, NONE, NONE);
        offsets("after lay", x, 1, 0, 0);
    }

    // ---- Promise 11

    private static void shift() {
        PeriodSlots x = made("S1bS2dS3-S3fS1aL01L12L13");
        is("shift(0, 3)", x.shift(0, 3), 2);
        offsets("shifted by 3", x, 0, 2, NONE, 0, 0);
        is("conflicts", x.about(2), 2);
        x = made("S1bS2dS3-S3fS1aL01L12L13");
        // 0 and 1 are neighbours and share the ticks 3 and 7; 0 and 3 have 1 in common and share tick 5.
        is("conflicts before", x.about(2), 2);
        is("shift(4, 1)", x.shift(4, 1), 2);
        offsets("only one station shifted", x, 1, 3, NONE, 5, 1);
        is("shift(3, 7)", x.shift(3, 7), 2);
        offsets("shifted by 7", x, 0, 2, NONE, 4, 1);
        is("shift(2, 0)", x.shift(2, 0), 2);
        offsets("shifted by 0", x, 0, 2, NONE, 4, 1);
        is("acts", x.about(8), 3);
        is("shift(0, 8)", x.shift(0, 8), BAD);
        is("shift(0, -1)", x.shift(0, -1), BAD);
        is("shift(0, MAX)", x.shift(0, MAX), BAD);
        is("shift(5, 0)", x.shift(5, 0), UNKNOWN);
        is("shift(-1, 8)", x.shift(-1, 8), UNKNOWN);
        is("acts after errors", x.about(8), 3);
        x = made("S1aS2aS1aL01");
        is("round", x.round(), 1);
        is("shift elsewhere", x.shift(2, 0), 0);
        olds("after shift", x, NONE, NONE, NONE);
        offsets("after shift", x, 1, 0, 0);
    }

    // ---- Promise 12

    private static void join() {
        PeriodSlots x = made("S1aS1aS1aS1aL23");
        is("join(0, 4)", x.join(0, 4), UNKNOWN);
        is("join(4, 4)", x.join(4, 4), UNKNOWN);
        is("join(-1, 0)", x.join(-1, 0), UNKNOWN);
        is("join(1, 1)", x.join(1, 1), BAD);
        is("join(2, 3)", x.join(2, 3), LATE);
        is("acts after errors", x.about(8), 0);
        is("links after errors", x.about(1), 1);
        is("join(0, 1)", x.join(0, 1), 1);
        offsets("the net with the lower station stays", x, 0, 1, 0, 0);
        is("acts", x.about(8), 1);
        is("join(3, 1)", x.join(3, 1), 0);
        is("net", x.station(0, 9), 15);
        is("join in one net", x.join(0, 3), LATE);
        is("undo", x.undo(), 1);
        is("undo", x.undo(), 0);
        is("join(1, 0)", x.join(1, 0), 1);
        offsets("in the other order", x, 0, 1, 0, 0);
        is("join without offsets", made("S3-S3-").join(0, 1), 0);
        is("join with one offset", made("S3-S3d").join(0, 1), 0);
        x = made("S1aS2aS1bS1aL01");
        is("round", x.round(), 1);
        is("old offset", x.station(0, 2), 0);
        is("join elsewhere", x.join(2, 3), 0);
        olds("after join", x, NONE, NONE, NONE, NONE);
        is("round number after join", x.about(3), 1);
    }

    private static void joinMovesTheSmallerNet() {
        PeriodSlots x = made("S1aS1aS1aL12");
        is("join of 1 and 2 stations", x.join(0, 1), 1);
        offsets("station 0 moved", x, 1, 0, 0);
        x = made("S1aS1aS1aL12");
        is("join of 2 and 1 stations", x.join(1, 0), 1);
        offsets("station 0 moved again", x, 1, 0, 0);
        x = made("S1aS1aS1aL01");
        is("join with the last station", x.join(0, 2), 1);
        offsets("station 2 moved", x, 0, 0, 1);
        x = made("S2aS2aS2bS2bL03L12");
        // Link 1 to 3: 1, 2 and 0 are near to 3 or through it; the net of 1 and 2 moves.
        is("join of equal nets", x.join(3, 1), 2);
        offsets("the net without station 0 moved", x, 0, 2, 3, 1);
        x = made("S3aS3cS3bS3aL01L02");
        is("join to the smallest d", x.join(0, 3), 3);
        offsets("smallest d", x, 0, 2, 1, 3);
        x = made("S3aS1aS1bL12");
        is("join without room", x.join(0, 1), 0);
        x = made("S1aS2aS2cS1aL01L02");
        // Against offset 0 of three neighbours' ticks: an odd offset meets none of them.
        is("join to an odd offset", x.join(3, 0), 1);
        is("conflicts of join", x.about(2), 2);
    }

    // ---- Promise 13

    private static void run() {
        PeriodSlots x = made(CROWD);
        is("run of a crowd", x.run(), 2);
        abouts("after the run", x, 3, 2, 0, 2, 1, 6, 1, 1, 1, 0, 15);
        is("run of a quiet field", x.run(), 0);
        is("acts", x.about(8), 2);
        is("round number", x.about(3), 2);
        x = made("S1aS2aL01");
        is("round before a run", x.round(), 1);
        is("run begins with old offsets", x.run(), 2);
        offsets("after it", x, 1, 0);
        is("round number after it", x.about(3), 3);
        x = made("S1aS2aL01");
        is("run", x.run(), 3);
        is("undo of the run", x.undo(), 0);
        offsets("before the run", x, 0, 0);
        is("round number before the run", x.about(3), 0);
        x = made(SLOW);
        is("run of 40 rounds", x.run(), 40);
        is("quiet after 40 rounds", x.about(6), 1);
        x = made(RESTLESS);
        is("run without rest", x.run(), NONE);
        is("round number after 40 rounds", x.about(3), 40);
        is("acts after 40 rounds", x.about(8), 1);
        olds("after 40 rounds", x, NONE, NONE, NONE, NONE, NONE, NONE);
        is("undo of 40 rounds", x.undo(), 0);
        offsets("before 40 rounds", x, 0, 1, 1, 1, 1, 1);
        is("not quiet before 40 rounds", x.about(6), 0);
        runRemovesOldOffsets();
    }

    private static void runRemovesOldOffsets() {
        PeriodSlots x = made(RESTLESS_WITH_OLDS);
        PeriodSlots y = made(RESTLESS_WITH_OLDS);
        int held = 0;
        for (int k = 0; k < 40; k++) {
            x.round();
        }
        is("run without rest", y.run(), NONE);
        for (int v = 0; v < 8; v++) {
            held += x.station(v, 2) != NONE ? 1 : 0;
            is("offset of " + v + " after a run", y.station(v, 1), x.station(v, 1));
            is("old offset of " + v + " after a run", y.station(v, 2), NONE);
        }
        Due.holds("old offsets after 40 rounds", held > 0);
    }

    // ---- Promise 14

    private static void undo() {
        PeriodSlots x = made("S1aS2aS3cL01");
        is("undo of nothing", x.undo(), LATE);
        is("round", x.round(), 1);
        is("lay", x.lay(2, 5), 2);
        is("turn", x.turn(1, 2), 1);
        is("turn with an error", x.turn(1, 1), BAD);
        is("shift", x.shift(0, 1), 1);
        is("undo of shift", x.undo(), 3);
        offsets("after undo of shift", x, 1, 0, 5);
        is("undo of turn", x.undo(), 2);
        is("links after undo of turn", x.about(1), 1);
        is("near after undo of turn", x.station(2, 6), 0);
        is("undo of lay", x.undo(), 1);
        offsets("after undo of lay", x, 1, 0, 2);
        olds("after undo of lay", x, 0, NONE, NONE);
        stations("after undo of lay", x, 0, 2, 1, 0, 170, 255, 2, 2, 480, 2, 3);
        is("undo of round", x.undo(), 0);
        abouts("after undo of round", x, 3, 1, 1, 0, 1, 7, 0, 2, 0, 0, 12);
        olds("after undo of round", x, NONE, NONE, NONE);
        is("priority after undo of round", x.station(0, 7), 343);
        is("undo of nothing", x.undo(), LATE);
        is("round", x.round(), 1);
        is("undo", x.undo(), 0);
    }

    private static void undoRemembersFourteen() {
        PeriodSlots x = made("S3a");
        for (int k = 1; k <= 20; k++) {
            is("lay " + k, x.lay(0, k % 8), (k - 1) % 8);
            is("acts " + k, x.about(8), Math.min(k, 14));
        }
        for (int k = 19; k >= 6; k--) {
            is("undo to " + k, x.undo(), k - 6);
            offsets("undo to " + k, x, k % 8);
        }
        is("undo of the fifteenth", x.undo(), LATE);
        offsets("undo of the fifteenth", x, 6);
        is("lay once more", x.lay(0, 1), 6);
        is("undo once more", x.undo(), 0);
        offsets("undo once more", x, 6);
    }

    // ---- Promise 15

    private static void aheads(String what, PeriodSlots x, int... wants) {
        for (int k = 0; k < wants.length; k++) {
            is(what + ": ahead(" + k + ")", x.ahead(k), wants[k]);
        }
        is(what + ": ahead(-1)", x.ahead(-1), BAD);
        is(what + ": ahead(4)", x.ahead(4), BAD);
        is(what + ": ahead(MIN)", x.ahead(MIN), BAD);
    }

    private static void ahead() {
        PeriodSlots x = made(CROWD);
        // Round 1 gives station 1 another offset, round 2 takes that of station 0.
        aheads("crowd", x, 2, 6, 3, 1);
        abouts("nothing is carried out", x, 3, 2, 3, 0, 3, 7, 0, 1, 0, 0, 15);
        is("run as predicted", x.run(), 2);
        aheads("quiet", x, 0, 6, 0, 0);
        aheads("no stations", new PeriodSlots(), 0, 0, 0, 0);
        aheads("from nothing", made("S1-S2-"), 1, 3, 3, 1);
        x = made("S1aS2aL01");
        aheads("there and back", x, 3, 3, 1, 2);
        is("round", x.round(), 1);
        aheads("with an old offset", x, 2, 3, 0, 1);
        olds("still", x, 0, NONE);
        aheads("without rest", made(RESTLESS), NONE, NONE, NONE, NONE);
        is("40 rounds", made(SLOW).ahead(0), 40);
    }

    // ---- Promise 16

    private static void plans(String text, int found, int... wants) {
        PeriodSlots x = made(text);
        is(text + ": plan(-1)", x.plan(-1), found);
        for (int v = 0; v < wants.length; v++) {
            is(text + ": plan(" + v + ")", x.plan(v), wants[v]);
        }
        is(text + ": plan(-2)", x.plan(-2), UNKNOWN);
        is(text + ": plan behind the last", x.plan(wants.length), UNKNOWN);
        is(text + ": plan(MAX)", x.plan(MAX), UNKNOWN);
        is(text + ": plan(MIN)", x.plan(MIN), UNKNOWN);
        is(text + ": no act", x.about(8), 0);
    }

    private static void plan() {
        plans("", 1);
        plans("S1b", 1, 0);
        plans(CROWD, 0, NONE, NONE, NONE);
        plans("S1-S2-S3-L01L12", 1, 0, 1, 3);
        plans("S3-S3-S1-L01L12", 1, 0, 2, 1);
        plans("S1-S1-S1-L01", 1, 0, 1, 0);
        plans("S1bS1aL01", 1, 0, 1);
        plans("S2-S2-S2-S2-S2-L01L12L23L34", 1, 0, 1, 2, 0, 1);
        plans("S2-S2-S2-S2-S2-L01L02L03L04", 0, NONE, NONE, NONE, NONE, NONE);
        plans("S3-S3-S3-S3-S1-L04L14L24L34", 1, 0, 2, 4, 6, 1);
        plans("S3-S3-S3-S3-S3-S1-L05L15L25L35L45", 0, NONE, NONE, NONE, NONE, NONE, NONE);
        plans("S1-S1-S1-S1-L12L23", 0, NONE, NONE, NONE, NONE);
        plans("S1-S1-S1-L02", 1, 0, 0, 1);
        // 0 and 1 are far from each other and send at the same ticks; 3 is near to both.
        plans("S2-S2-S2-S2-S2-L02L23L34L14", 1, 0, 0, 1, 2, 3);
        // What was tried for the later ones must not stand in the way of the earlier ones.
        plans("S3-S3-S2-S1-L02L12L23", 1, 0, 4, 2, 1);
        // Only offset 0 is open for the last one, and that is enough.
        plans("S2-S2-S2-S1-L01L12L23", 1, 0, 1, 3, 0);
        plans("S3-S3-S3-S3-S3-S3-S3-S3-L01L02L03L04L05L06L07", 1, 0, 1, 2, 3, 4, 5, 6, 7);
        PeriodSlots x = made("S1bS1bL01");
        is("plan(0)", x.plan(0), 0);
        offsets("plan changes nothing", x, 1, 1);
    }

    // ---- Promise 17

    private static void shifted() {
        PeriodSlots x = made("S1bS2dS3-S3fS1aL01L12L13");
        is("shifted(0, 0)", x.shifted(0, 0), 2);
        is("shifted(0, 7)", x.shifted(0, 7), 2);
        is("shifted(4, 1)", x.shifted(4, 1), 2);
        is("shifted(0, 8)", x.shifted(0, 8), BAD);
        is("shifted(0, -1)", x.shifted(0, -1), BAD);
        is("shifted(5, 0)", x.shifted(5, 0), UNKNOWN);
        is("shifted(-1, -1)", x.shifted(-1, -1), UNKNOWN);
        offsets("shifted changes nothing", x, 1, 3, NONE, 5, 0);
        is("no act", x.about(8), 0);
        // Period 2 and 8 in one net: the wrap is each station's own, and 8 ticks bring all back.
        x = made("S1aS3cL01");
        for (int d = 0; d < 8; d++) {
            is("shifted(1, " + d + ")", x.shifted(1, d), 1);
        }
        x = made("S1aS2aL01");
        is("round", x.round(), 1);
        is("shifted with old offsets", x.shifted(0, 3), 0);
        olds("shifted changes nothing", x, 0, NONE);
    }

    // ---- Promise 18

    private static void awakes(String text, int v, int... wants) {
        PeriodSlots x = made(text);
        for (int k = 0; k < wants.length; k++) {
            is(text + ": awake(" + v + ", " + k + ")", x.awake(v, k), wants[k]);
        }
        is(text + ": awake(-1, 0)", x.awake(-1, 0), UNKNOWN);
        is(text + ": awake(8, 0)", x.awake(8, 0), UNKNOWN);
        is(text + ": awake(MAX, 4)", x.awake(MAX, 4), UNKNOWN);
        is(text + ": awake(v, 4)", x.awake(v, 4), BAD);
        is(text + ": awake(v, -1)", x.awake(v, -1), BAD);
        is(text + ": awake(v, MIN)", x.awake(v, MIN), BAD);
    }

    private static void awake() {
        awakes("S2bS3eS3eL01L02", 0, 50, 3, 2, 0);
        awakes("S2bS3eS3eL01L02", 1, 50, 3, 2, 34);
        awakes("S2bS3eS3fL01L02", 0, 50, 3, 2, 16);
        awakes("S3aS3hL01", 0, 129, 2, 1, 128);
        awakes("S3aS3hL01", 1, 129, 2, 1, 1);
        awakes("S1aS1bL01", 0, 255, 8, 0, 170);
        awakes("S1aS1aL01", 0, 85, 4, 4, 0);
        awakes("S1-S3-L01", 1, 0, 0, 0, 0);
        awakes("S3aS3bS3cL01L12", 0, 3, 2, 1, 2);
        awakes("S3aS3bS3cL01L12", 1, 7, 3, 1, 5);
        awakes("S1a", 0, 85, 4, 4, 0);
        // Old ticks are neither sent nor heard.
        PeriodSlots x = made("S1aS2aL01");
        is("round", x.round(), 1);
        is("awake of the old", x.awake(0, 0), 187);
        is("heard of the old", x.awake(1, 3), 170);
    }

    // ---- Promise 19

    private static void arrives() {
        PeriodSlots x = made("S3aS3bS3cS3-L01L12L23");
        is("arrives(0, 1, 0)", x.arrives(0, 1, 0), 1);
        is("arrives(0, 2, 0)", x.arrives(0, 2, 0), 2);
        is("arrives(0, 2, 1)", x.arrives(0, 2, 1), 9);
        is("arrives(0, 2, 7)", x.arrives(0, 2, 7), 3);
        is("arrives(2, 0, 2)", x.arrives(2, 0, 2), 8);
        is("arrives(2, 3, 3)", x.arrives(2, 3, 3), 8);
        is("arrives(3, 0, 0)", x.arrives(3, 0, 0), NONE);
        is("arrives(1, 1, 5)", x.arrives(1, 1, 5), 0);
        is("arrives(3, 3, 0)", x.arrives(3, 3, 0), 0);
        is("arrives(0, 1, 8)", x.arrives(0, 1, 8), BAD);
        is("arrives(0, 1, -1)", x.arrives(0, 1, -1), BAD);
        is("arrives(0, 0, MIN)", x.arrives(0, 0, MIN), BAD);
        is("arrives(0, 4, 8)", x.arrives(0, 4, 8), UNKNOWN);
        is("arrives(4, 0, 0)", x.arrives(4, 0, 0), UNKNOWN);
        is("arrives(-1, -1, 0)", x.arrives(-1, -1, 0), UNKNOWN);
        // 1 cannot hear 0, because 2 sends at the same ticks.
        is("arrives in a collision", made("S1aS1bS1aL01L12").arrives(0, 1, 0), NONE);
        is("arrives from a far sender", made("S1aS1bS1aL01").arrives(0, 1, 0), 1);
        is("arrives without a link", made("S1aS1b").arrives(0, 1, 0), NONE);
        // 1 hears 0 again and again before it sends, and does not lose what it has.
        is("arrives after hearing it often", made("S1aS3hS3-L01L12").arrives(0, 2, 0), 8);
        // Through either of two ways, the shorter one counts.
        is("arrives on the shorter way", made("S3aS3bS3dS3gL01L02L13L23").arrives(0, 3, 0), 2);
        x = made("S3hS3gS3fS3eS3dS3cS3bS3aL01L12L23L34L45L56L67");
        is("arrives on the longest way", x.arrives(0, 7, 0), 50);
        is("arrives after the first chance", x.arrives(0, 1, 0), 8);
        is("arrives after each", x.arrives(0, 2, 0), 15);
    }

    // ---- Promise 20

    private static void judge() {
        PeriodSlots x = made("S1aS2aL01");
        is("judge(0, 0)", x.judge(0, 0), BAD);
        is("judge(-1, 0)", x.judge(-1, 0), BAD);
        is("judge(5, 0)", x.judge(5, 0), BAD);
        is("judge(MIN, 0)", x.judge(MIN, 0), BAD);
        is("judge(MAX, 0)", x.judge(MAX, 0), BAD);
        is("judge(1, -1)", x.judge(1, -1), BAD);
        is("judge(4, MIN)", x.judge(4, Long.MIN_VALUE), BAD);
        is("judge(4, MAX)", x.judge(4, Long.MAX_VALUE), BAD);
        is("judge(1, 10000)", x.judge(1, 10000), BAD);
        is("judge(1, 9999)", x.judge(1, 9999), 0);
        is("judge(2, 100000000)", x.judge(2, 100000000L), BAD);
        is("judge(3, 1000000000000)", x.judge(3, 1000000000000L), BAD);
        is("judge(4, 10000000000000000)", x.judge(4, 10000000000000000L), BAD);
        is("judge(4, 5000500050005000)", x.judge(4, 5000500050005000L), NONE);
        is("judge(4, 5000500050000000)", x.judge(4, 5000500050000000L), 3);
        is("judge(4, 5000500000005000)", x.judge(4, 5000500000005000L), 2);
        is("judge(4, 5000)", x.judge(4, 5000), 0);
        is("judge(2, 50004001)", x.judge(2, 50004001L), 1);
        is("judge(2, 40015000)", x.judge(2, 40015000L), NONE);
        abouts("nothing is changed", x, 2, 1, 1, 0, 1, 3, 0, 1, 0, 0, 9);
        olds("nothing is changed", x, NONE, NONE);
    }

    private static void judges(PeriodSlots x, int statement, boolean truth) {
        is("judge(1, " + statement + ")", x.judge(1, statement), truth ? NONE : 0);
    }

    private static void judgeDigits() {
        PeriodSlots x = made("S1aS2aS3-L01");
        int[] right = {
            1010, 1200, 1120, 2000, 2010, 2090, 2100, 2130, 2190, 2270, 2290, 3000, 3070, 3240,
            4001, 5000, 6001, 6100, 6201, 7003};
        int[] wrong = {
            0, 1, 1000, 1110, 1011, 1030, 1300, 1900, 1090, 2020, 2080, 2140, 2180, 2280, 2001, 2091, 2300, 2390,
            3080, 3090, 3001, 3300, 4000, 4002, 4010, 4101, 4901, 5001, 5010, 5100, 6000, 6101, 6200, 6002, 6009, 6011,
            6102, 6110, 6202, 6300, 6301, 6901, 7002, 7004, 7000, 7103, 7013, 8000, 8001, 9000, 9999};
        for (int statement : right) {
            judges(x, statement, true);
        }
        for (int statement : wrong) {
            judges(x, statement, false);
        }
        judges(made(RESTLESS), 7040, false);
        judges(made(RESTLESS), 7009, false);
        judges(made(SLOW), 7040, true);
        judges(made("S2aS2aS2aS2aS2aL01L02L03L04"), 4010, true);
        judges(new PeriodSlots(), 6000, false);
        judges(new PeriodSlots(), 2000, false);
        judges(new PeriodSlots(), 7000, true);
    }

    private static void judgeActs() {
        PeriodSlots x = made("S1aS2aS3-L01");
        is("turn takes effect", x.judge(2, 10104000L), NONE);
        is("turn twice", x.judge(3, 101010104001L), NONE);
        is("lay takes effect", x.judge(2, 20104000L), NONE);
        is("lay of none takes effect", x.judge(3, 209040006001L), NONE);
        is("shift takes effect", x.judge(4, 1010305010104000L), NONE);
        is("shift of the whole net", x.judge(2, 30504001L), NONE);
        is("round takes effect", x.judge(3, 500040006101L), NONE);
        is("round takes effect on priorities", x.judge(2, 50006001L), 1);
        is("run does not take effect", x.judge(3, 700370034001L), NONE);
        is("act before a false statement", x.judge(3, 101040015000L), 1);
        is("round begins a run", x.judge(2, 50007002L), NONE);
        // A lay removes the old offset, so station 1 need not leave.
        is("lay removes old offsets", x.judge(3, 500022906100L), NONE);
        is("turn removes old offsets", x.judge(4, 5000102010206100L), NONE);
        is("shift removes old offsets", x.judge(3, 500032006100L), NONE);
        is("without them", x.judge(3, 500050006100L), 2);
        abouts("nothing is changed", x, 3, 1, 1, 0, 5, 3, 0, 2, 0, 0, 12);
        is("round", x.round(), 2);
        is("judge with old offsets", x.judge(2, 61017002L), NONE);
        olds("old offsets stay", x, 0, NONE, NONE);
        is("acts", x.about(8), 1);
    }

    // ---- Promises 21 and 22

    private static void see() {
        PeriodSlots x = made("S1aS2a");
        is("see(2, 0, 0)", x.see(2, 0, 0), UNKNOWN);
        is("see(-1, 9, 9)", x.see(-1, 9, 9), UNKNOWN);
        is("see(0, 8, 0)", x.see(0, 8, 0), BAD);
        is("see(0, -1, 0)", x.see(0, -1, 0), BAD);
        is("see(0, 0, 3)", x.see(0, 0, 3), BAD);
        is("see(0, 0, -1)", x.see(0, 0, -1), BAD);
        is("see(0, MIN, MAX)", x.see(0, MIN, MAX), BAD);
        is("observations after errors", x.about(9), 0);
        for (int k = 1; k <= 6; k++) {
            is("see " + k, x.see(k % 2, k, k % 3), k);
            is("observations " + k, x.about(9), k);
        }
        is("see 7", x.see(0, 7, 2), FULL);
        is("see(0, 8, 0) when full", x.see(0, 8, 0), BAD);
        is("see(2, 0, 0) when full", x.see(2, 0, 0), UNKNOWN);
        is("observations when full", x.about(9), 6);
        is("acts", x.about(8), 0);
        is("unsee()", x.unsee(), 6);
        is("observations after unsee", x.about(9), 0);
        is("unsee() of none", x.unsee(), 0);
        is("see after unsee", x.see(0, 0, 0), 1);
        is("which after unsee", x.which(1), 15);
    }

    // ---- Promise 23

    private static void which() {
        PeriodSlots x = made("S1aS2aS3-S1bL01L12");
        is("which(-1)", x.which(-1), UNKNOWN);
        is("which(4)", x.which(4), UNKNOWN);
        is("which(MAX)", x.which(MAX), UNKNOWN);
        is("which(0) of none", x.which(0), 3);
        is("which(1) of none", x.which(1), 15);
        is("which(2) of none", x.which(2), 255);
        is("see(1, 3, 1)", x.see(1, 3, 1), 1);
        is("which(0)", x.which(0), 2);
        is("which(2)", x.which(2), 8);
        is("which(1) is not its own neighbour", x.which(1), 0);
        is("which(3) is no neighbour", x.which(3), 0);
        is("see(1, 7, 0)", x.see(1, 7, 0), 2);
        is("which(2) of two", x.which(2), 8);
        is("which(0) of two", x.which(0), 0);
        is("unsee", x.unsee(), 2);
        is("see(1, 4, 2)", x.see(1, 4, 2), 1);
        is("which(2) of two senders", x.which(2), 16);
        is("which(0) of two senders", x.which(0), 0);
        is("lay", x.lay(2, 4), NONE);
        is("which(0) of two senders", x.which(0), 1);
        is("which(3) of two senders", x.which(3), 3);
        is("offset stays", x.station(0, 1), 0);
        is("unsee", x.unsee(), 1);
        is("see(0, 2, 1)", x.see(0, 2, 1), 1);
        is("see(2, 2, 1)", x.see(2, 2, 1), 2);
        is("see(3, 0, 0)", x.see(3, 0, 0), 3);
        is("which(1)", x.which(1), 4);
        is("see(3, 1, 1)", x.see(3, 1, 1), 4);
        is("which(1) of the impossible", x.which(1), 0);
        is("wipe", x.wipe() > 0 ? 1 : 0, 1);
        Due.type(x, "S1aS2aS3-L01L12");
        is("field of fewer", x.field(), 3);
        is("which(1) without station 3", x.which(1), 4);
        // The sender itself may have the tick, too: three at once are two or more.
        x = made("S1aS1aS1aS1aL01L02L03");
        is("see three", x.see(0, 0, 2), 1);
        is("which(3) of three", x.which(3), 3);
        is("which(0) of three", x.which(0), 3);
    }

    // ---- Promise 24

    private static void shareIs(String text, int v, int upper, int lower) {
        PeriodSlots x = made(text);
        is(text + ": share(" + v + ", true)", x.share(v, true), upper);
        is(text + ": share(" + v + ", false)", x.share(v, false), lower);
        is(text + ": no act", x.about(8), 0);
        is(text + ": no round", x.about(3), 0);
    }

    private static void share() {
        shareIs("S1-", 0, 1, 1);
        shareIs("S1-S3c", 1, 1, 1);
        shareIs("S3aS3bS1-L01L12", 2, 1, 1);
        for (int v = 0; v < 3; v++) {
            shareIs(CROWD, v, 2, 3);
        }
        // The middle of a star helps the first two, and then costs one more with each that came before.
        shareIs("S1aS1aS1aS1aL01L02L03", 0, 1, 4);
        shareIs("S1aS1aS1aS1aS1aL01L02L03L04", 0, -1, 5);
        shareIs("S1aS1aS1aS1aS1aS1aL01L02L03L04L05", 0, -2, 3);
        PeriodSlots x = made(CROWD);
        is("share(-1, true)", x.share(-1, true), UNKNOWN);
        is("share(3, false)", x.share(3, false), UNKNOWN);
        is("share(MAX, true)", x.share(MAX, true), UNKNOWN);
        is("round", x.round(), 1);
        is("share with another round number", x.share(0, true), 2);
        olds("share changes nothing", x, NONE, 0, NONE);
        offsets("share changes nothing", x, 0, 1, 0);
        // Two pairs and their middle: with k others on before it, it changes the result by 1, 1, 0, -1, -2.
        shareIs("S1-S1-S1-S1-S1-L01L02L03L04L12L34", 0, -1, 5);
    }

    // ---- Promise 25

    private static void offs(String text, int x, int upper, int lower) {
        PeriodSlots slots = made(text);
        is(text + ": off(" + x + ", true)", slots.off(x, true), upper);
        is(text + ": off(" + x + ", false)", slots.off(x, false), lower);
        is(text + ": no act", slots.about(8), 0);
    }

    private static void off() {
        offs("", 0, 1, 1);
        offs("", 10, 1, 1);
        // With the offsets that it has, the last one would find nothing free; without them all find something.
        offs("S3aS3bS1-L01L12", 0, 1, 1);
        offs("S1-S2-L01", 4, 1, 1);
        offs(CROWD, 0, 0, 1);
        offs(CROWD, 3, 657, 1000);
        offs(CROWD, 5, 7, 8);
        offs(CROWD, 9, 999, 1000);
        offs(CROWD, 10, 1, 1);
        // A star of eight: without its middle (9/10), or with it and at most one of seven others.
        offs("S1-S1-S1-S1-S1-S1-S1-S1-L01L02L03L04L05L06L07", 9, 98503056 / 16, 100000000 / 16);
        PeriodSlots x = made(CROWD);
        is("off(-1, true)", x.off(-1, true), BAD);
        is("off(11, false)", x.off(11, false), BAD);
        is("off(MIN, true)", x.off(MIN, true), BAD);
        is("round", x.round(), 1);
        is("off with another round number", x.off(3, true), 657);
        olds("off changes nothing", x, NONE, 0, NONE);
    }

    // ---- Promise 26

    private static void seed() {
        PeriodSlots x = made("S1a");
        is("seed(MIN)", x.seed(Long.MIN_VALUE), 0);
        is("seed(MAX)", x.seed(Long.MAX_VALUE), Long.MIN_VALUE);
        is("seed(-2)", x.seed(-2), Long.MAX_VALUE);
        is("seed(3)", x.seed(3), -2);
        is("acts", x.about(8), 0);
    }

    // ---- Promise 27

    private static void drawn() {
        PeriodSlots x = made("S1aS2aS3-");
        is("drawn(0)", x.drawn(0), BAD);
        is("drawn(11)", x.drawn(11), BAD);
        is("drawn(-1)", x.drawn(-1), BAD);
        is("drawn(MAX)", x.drawn(MAX), BAD);
        is("state after errors", x.seed(0), 0);
        is("drawn(10) without links", x.drawn(10), 0);
        long state = 0;
        for (int k = 0; k < 30; k++) {
            state = state * 6364136223846793005L + 1442695040888963407L;
        }
        is("state after 30 draws", x.seed(5), state);
        offsets("drawn changes nothing", x, 0, 0, NONE);
        is("drawn without stations", new PeriodSlots().drawn(10), 0);
        drawnAgainstRuns("S1aS1aL01", 1);
        drawnAgainstRuns(CROWD, 7);
        drawnAgainstRuns("S3-S3-S2-S2-S1-L01L12L23L34L40", -12345678901L);
        drawnAgainstRuns(RESTLESS, 99);
        x = made("S1aS2aL01");
        is("round", x.round(), 1);
        is("seed", x.seed(1), 0);
        PeriodSlots y = made("S1aS2aL01");
        is("seed", y.seed(1), 0);
        is("drawn begins with round number 0", x.drawn(10), y.drawn(10));
        olds("drawn changes nothing", x, 0, NONE);
        is("round number", x.about(3), 1);
        is("acts", x.about(8), 1);
    }

    /** What drawn(m) says must be what run() says when the same offsets are laid by hand. */
    private static void drawnAgainstRuns(String text, long first) {
        for (int m = 1; m <= 10; m++) {
            PeriodSlots x = made(text);
            long state = first;
            int sum = 0;
            for (int k = 0; k < m; k++) {
                x.field();
                for (int v = 0; v < x.about(0); v++) {
                    state = state * 6364136223846793005L + 1442695040888963407L;
                    x.lay(v, (int) ((state >>> 33) % x.station(v, 0)));
                }
                int rounds = x.run();
                sum += rounds == NONE ? 40 : rounds;
            }
            x.seed(first);
            is(text + ": drawn(" + m + ")", x.drawn(m), sum);
            is(text + ": state after drawn(" + m + ")", x.seed(0), state);
        }
    }

    // ---- Promises 28 and 29

    private static void keepAndAgain() {
        PeriodSlots x = made("S1aS2aS3cL01");
        is("keep(-1)", x.keep(-1), UNKNOWN);
        is("keep(2)", x.keep(2), UNKNOWN);
        is("keep(MIN)", x.keep(MIN), UNKNOWN);
        is("again(-1)", x.again(-1), UNKNOWN);
        is("again(2)", x.again(2), UNKNOWN);
        is("again(MAX)", x.again(MAX), UNKNOWN);
        is("round", x.round(), 1);
        is("keep(0)", x.keep(0), 3);
        is("acts after keep", x.about(8), 1);
        is("again(1) of nothing", x.again(1), LATE);
        is("acts after an error", x.about(8), 1);
        is("shift", x.shift(0, 1), 0);
        is("turn", x.turn(0, 2), 1);
        is("round", x.round() >= 0 ? 1 : 0, 1);
        is("keep(1)", x.keep(1), 3);
        is("again(0)", x.again(0), 3);
        abouts("again(0)", x, 3, 1, 0, 1, 2, 7, 0, 2, 0, 0, 12);
        offsets("again(0)", x, 1, 0, 2);
        olds("again(0)", x, 0, NONE, NONE);
        stations("again(0)", x, 0, 2, 1, 0, 170, 255, 2, 2, 480, 2, 3);
        is("undo after again", x.undo(), LATE);
        is("again(1)", x.again(1), 3);
        is("links of slot 1", x.about(1), 2);
        is("round number of slot 1", x.about(3), 2);
        is("lay", x.lay(2, 7) >= NONE ? 1 : 0, 1);
        is("again(0) once more", x.again(0), 3);
        offsets("the slot stays", x, 1, 0, 2);
        is("lay", x.lay(2, 6), 2);
        is("keep(0) in place of it", x.keep(0), 3);
        is("lay", x.lay(2, 5), 6);
        is("again(0)", x.again(0), 3);
        offsets("the later one", x, 1, 0, 6);
        olds("the later one", x, NONE, NONE, NONE);
        is("keep without stations", new PeriodSlots().keep(1), 0);
    }
}
