/** Promises 8 to 14: a test for each sentence that names a boundary case of rounds and acts. */
final class ActBoundaries {
    private static final int UNKNOWN = Trial.UNKNOWN, BAD = Trial.BAD, LATE = Trial.LATE, NONE = Trial.NONE;
    // Found by a search. From round 39 on, from round 40 on and from round 41 on they are quiet.
    static final String QUIET_AFTER_39 = "S1aS1-S1bS1bS1aS1bL01L03L04L05L25";
    static final String QUIET_AFTER_40 = "S1aS1bS1aS1bS1aS1bS1-L26L34L45L46";
    static final String QUIET_AFTER_41 = "S1aS1aS1-S2dS2-S2aL02L04L14L45";
    // After 40 rounds nothing but an old offset keeps this one from being quiet.
    static final String OLD_AFTER_40 = "S1bS1aS1bS1aS1-S1bS1aS1bL04L05L07L12L14L17L34";
    static final String RESTLESS = "S1aS1bS1bS1bS1bS1bL02L12L23L24L25";
    private static final String EIGHT_WITHOUT = "S1-S1-S1-S1-S1-S1-S1-S1-";
    // 0 and 1 have a conflict, 1 is above: a round makes 0 move and have an old offset. 2 and 3 stand aside.
    private static final String PAIR_ASIDE = "S1aS2aS1aS1aL01";

    private ActBoundaries() { }

    static void run() {
        roundNumber();
        priorities();
        above();
        unsettled();
        free();
        whoMoves();
        whereTo();
        quiet();
        runs();
        shiftingANet();
        whatIsAnAct();
        oldOffsetsOfActs();
        fourteenActs();
        round();
        turn();
        lay();
        shift();
        joinMovesTheSmallerNet();
        joinShifts();
        join();
        runAnswers();
        undo();
    }

    // ---- Rounds

    private static void roundNumber() {
        Trial t = Trial.of(6, "The round number r is 0 at first.");
        t.is("about(3)", 0).made("S1aS1b").is("about(3)", 0).is("round()", 0).is("about(3)", 1);
        t.fresh().is("round()", 0).is("about(3)", 1);

        t = Trial.of(8, "The round number increases by 1.");
        t.made("S1aS1aL01").is("round()", 1).is("about(3)", 1).is("round()", 1).is("about(3)", 2);
        t.is("run()", 1).is("about(3)", 3).is("run()", 0).is("about(3)", 3);
        t.is("round()", 0).is("about(3)", 4).fresh().is("round()", 0).is("round()", 0).is("about(3)", 2);
    }

    private static void priorities() {
        Trial t = Trial.of(7, "The priority of station v is (7 + 37 * v + 101 * r) to the power 3, modulo 1009");
        t.made(EIGHT_WITHOUT).are("station(#, 7)", 343, 428, 707, 380, 665, 762, 880, 219);
        // 7 + 37 * 7 + 101 * 7 = 973 is below 1009, and with another round it is above.
        t.times(7, "round()").is("station(7, 7)", 767).times(1, "round()").is("station(7, 7)", 177);
        t.is("station(6, 7)", 763);
        // From 13 rounds on the power outgrows an int.
        t.times(4, "round()").are("station(#, 7)", 398, 817, 995, 132, 455, 155, 450, 540);
        t.does("round()").are("station(#, 7)", 932, 280, 612, 119, 19, 521, 825, 131);
        t.times(85, "round()").is("about(3)", 98).is("station(5, 7)", 0).is("station(4, 7)", 806);
        t.times(372, "round()").is("about(3)", 470).is("station(0, 7)", 60).is("station(7, 7)", 787);
    }

    private static void above() {
        Trial t = Trial.of(6, "a station is above another one if its priority is greater, or it is equal and its number"
            + " is lower");
        t.made("S1aS1aL01").are("station(#, 7)", 343, 428).is("about(4)", 1);
        t.made("S1-S1-S1-S1-S1-S1-S1aS1aL67").is("station(6, 7)", 880).is("station(7, 7)", 219).is("about(4)", 191);
        // Stations 0 and 3 are equal in round 52 alone.
        t.made("S1aS3-S3-S1a").times(51, "round()").is("station(0, 7)", 27).is("station(3, 7)", 173);
        t.is("turn(0, 3)", 1).is("about(4)", 1);
        t.made("S1aS3-S3-S1a").times(52, "round()").is("station(0, 7)", 936).is("station(3, 7)", 936);
        t.is("turn(0, 3)", 1).is("about(4)", 8).is("round()", 1).are("station(#, 1)", 0, 0, 0, 1);
        t.made("S1aS3-S3-S1a").times(53, "round()").is("station(0, 7)", 82).is("station(3, 7)", 205);
        t.is("turn(3, 0)", 1).is("about(4)", 1);
    }

    private static void unsettled() {
        Trial t = Trial.of(6, "A station is unsettled if it has no offset, or one of its own ticks is occupied by a near"
            + " station that is above it.");
        t.is("about(4)", 0);
        t.made("S1-").is("about(4)", 1).is("lay(0, 0)", NONE).is("about(4)", 0);
        t.made("S1-S1aS1bL01L02").is("station(0, 8)", 0).is("about(4)", 1);
        t.made("S1aS1a").is("about(4)", 0);
        t.made("S1aS1aL01").is("about(4)", 1);
        t.made("S1aS3gL01").is("about(4)", 1);
        t.made("S1aS3hL01").is("about(4)", 0);
        t.made("S3gS1aL01").is("about(4)", 1);
        // At two links' distance 0 is near to 2, at three links' distance it is not.
        t.made("S1aS3hS1aL01L12").is("about(4)", 1);
        t.made("S1aS3hS3fS1aL01L12L23").is("about(4)", 0);
        // The old offset of 0 meets 1, which is below it in round 1.
        t.made("S3aS3aL01").is("round()", 1).are("station(#, 1)", 1, 0).are("station(#, 4)", 3, 1).is("about(4)", 2);
        // 2 is above 0 in rounds 0 and 1: only the old tick of 0 meets it, and that is none of its own.
        t.made("S3aS1bS3aL02").is("round()", 1).are("station(#, 4)", 3, 170, 1).is("about(4)", 0);
    }

    private static void free() {
        Trial t = Trial.of(7, "An offset, from 0 to its period minus 1, is free for a station if none of the ticks that it"
            + " would have with it is occupied by a near station.");
        t.made("S1-S2-S3-").are("station(#, 8)", 3, 15, 255);
        t.made("S1aS2aS3a").are("station(#, 8)", 3, 15, 255);
        t.made("S1-S3aL01").is("station(0, 8)", 2).made("S1-S3hL01").is("station(0, 8)", 1);
        t.made("S3-S3aS3hL01L02").is("station(0, 8)", 126);
        // 1 is near to 0 below it and to 2 above it.
        t.made("S3aS3-S3bL01L12").is("station(1, 8)", 252).is("station(0, 8)", 253).is("station(2, 8)", 254);
        t.made("S3-S3aS3bS3cL01L12L23").is("station(0, 8)", 252);
        t.made("S1-S1aS1bL01L02").is("station(0, 8)", 0);
        t.made("S1aS2aL01").is("station(1, 8)", 10).is("round()", 1).is("station(1, 8)", 0).is("station(0, 8)", 2);
    }

    private static void whoMoves() {
        Trial t = Trial.of(8, "In a round, according to the state before it, each unsettled station for which no near"
            + " station that is above it is unsettled moves");
        t.made("S1-").is("round()", 1);
        // 1 is above 3, so 3 waits until 1 is settled; 0 and 2 are alone.
        t.made("S1-S1-S1-S1-L13").is("round()", 3).are("station(#, 1)", 0, 0, 0, NONE);
        t.is("round()", 1).are("station(#, 1)", 0, 0, 0, 1);
        // At two links' distance 0 waits for 2, which is above it; at three links' distance both ends move.
        t.made("S1-S3aS1-L01L12").is("round()", 1).are("station(#, 1)", NONE, 0, 1);
        t.made("S1-S3hS3fS1-L01L12L23").is("round()", 2).are("station(#, 1)", 0, 7, 5, 0);
        // A settled station above it keeps no one waiting.
        t.made("S1-S1aL01").is("round()", 1).are("station(#, 1)", 1, 0);
        // The old offset of 0 goes in this round, but it still stands in the state before.
        t.made("S3aS3aL01").is("round()", 1).is("round()", 1).are("station(#, 1)", 1, 2);
        t.are("station(#, 2)", NONE, 0);
    }

    private static void whereTo() {
        Trial t = Trial.of(8, "it gets the lowest offset that is free for it, and the offset that it had, if any, becomes"
            + " its old offset");
        t.made("S3-").is("round()", 1).is("station(0, 1)", 0).is("station(0, 2)", NONE);
        t.made("S3-S3aS3bS3dL01L02L03").is("round()", 1).is("station(0, 1)", 2).is("station(0, 2)", NONE);
        t.made("S3-S3aS3bS3cS3dS3eS3fS3gL01L02L03L04L05L06L07").is("round()", 1).is("station(0, 1)", 7);
        t.made("S3aS3aL01").is("round()", 1).is("station(0, 1)", 1).is("station(0, 2)", 0);
        t.made("S3hS3hL01").is("round()", 1).is("station(0, 1)", 0).is("station(0, 2)", 7);

        t = Trial.of(8, "if none is free, it has neither an offset nor an old one");
        t.made("S1aS1aS1bL01L02").is("station(0, 8)", 0).is("round()", 1);
        t.are("station(#, 1)", NONE, 0, 1).are("station(#, 2)", NONE, NONE, NONE).is("station(0, 4)", 0);
        t.is("round()", 0).is("station(0, 1)", NONE).is("station(0, 2)", NONE);
        // A single free offset is enough.
        t.made("S2aS1aS2bL01L02").is("station(0, 8)", 8).is("round()", 1).is("station(0, 1)", 3);
        t.is("station(0, 2)", 0);

        t = Trial.of(8, "All other stations keep their offsets, and have no old offset after it.");
        t.made("S3aS3aS1bL01").is("round()", 1).are("station(#, 2)", 0, NONE, NONE).are("station(#, 1)", 1, 0, 1);
        t.is("round()", 1).are("station(#, 2)", NONE, 0, NONE).are("station(#, 1)", 1, 2, 1);
        t.is("round()", 0).are("station(#, 2)", NONE, NONE, NONE).are("station(#, 1)", 1, 2, 1);
    }

    private static void quiet() {
        Trial t = Trial.of(6, "The field is quiet if there are no old offsets, and no station is unsettled, except stations"
            + " without an offset for which none is free.");
        t.is("about(6)", 1);
        t.made("S1aS1bL01").is("about(6)", 1);
        t.made("S1aS1aL01").is("about(6)", 0);
        // Nobody is unsettled after the round, but there is an old offset.
        t.made("S3aS1bS3aL02").is("round()", 1).is("about(4)", 0).is("station(0, 2)", 0).is("about(6)", 0);
        t.is("round()", 0).is("about(6)", 1);
        t.made("S1-S1aS1bL01L02").is("station(0, 8)", 0).is("about(4)", 1).is("about(6)", 1);
        t.made("S2-S1aS2bL01L02").is("station(0, 8)", 8).is("about(4)", 1).is("about(6)", 0);
        // None is free for this one either, but it has an offset.
        t.made("S1aS1aS1bL01L02").is("station(0, 8)", 0).is("about(4)", 1).is("about(6)", 0);
        t.is("round()", 1).is("about(6)", 1);
    }

    private static void runs() {
        Trial t = Trial.of(13, "A run consists of rounds until the field is quiet (none if it is so already), but at most"
            + " 40.");
        t.is("run()", 0).is("about(3)", 0);
        t.made("S1aS1bL01").is("run()", 0).is("about(3)", 0);
        t.made("S1-").is("run()", 1).is("about(3)", 1);
        t.made(QUIET_AFTER_39).is("run()", 39).is("about(3)", 39).is("about(6)", 1);
        t.made(QUIET_AFTER_40).is("run()", 40).is("about(3)", 40).is("about(6)", 1);
        t.made(QUIET_AFTER_41).is("run()", NONE).is("about(3)", 40).is("about(6)", 0);
        t.is("run()", 1).is("about(3)", 41).is("about(6)", 1);
        t.made(RESTLESS).is("run()", NONE).is("about(3)", 40).is("run()", 20).is("about(3)", 60);
    }

    private static void shiftingANet() {
        Trial t = Trial.of(11, "Shifting a net by d means: for each station of the net that has an offset, the offset"
            + " becomes (offset + d) modulo its period.");
        String text = "S1bS2dS3hS3-S3hL01L12L23";
        t.made(text).is("shift(0, 0)", 3).are("station(#, 1)", 1, 3, 7, NONE, 7);
        t.made(text).is("shift(0, 1)", 3).are("station(#, 1)", 0, 0, 0, NONE, 7);
        t.made(text).is("shift(3, 7)", 3).are("station(#, 1)", 0, 2, 6, NONE, 7);
        t.made(text).is("shift(4, 7)", 3).are("station(#, 1)", 1, 3, 7, NONE, 6);
        t.made("S3a").is("shift(0, 7)", 0).is("station(0, 1)", 7).is("shift(0, 1)", 0).is("station(0, 1)", 0);

        t = Trial.of(11, "All old offsets are removed.");
        t.made(PAIR_ASIDE).is("round()", 1).is("station(0, 2)", 0).is("shift(2, 0)", 0);
        t.are("station(#, 2)", NONE, NONE, NONE, NONE).are("station(#, 1)", 1, 0, 0, 0);
    }

    // ---- Acts

    private static void whatIsAnAct() {
        Trial t = Trial.of(14, "round(), turn(), lay(), shift(), join() and run() are acts if they return no error, also if"
            + " they change nothing.");
        t.is("run()", 0).is("about(8)", 1).is("round()", 0).is("about(8)", 2);
        t.made("S1aS1bS1a").is("about(8)", 0).is("lay(0, 0)", 0).is("about(8)", 1).is("shift(0, 0)", 0);
        t.is("about(8)", 2).is("run()", 0).is("about(8)", 3).is("round()", 0).is("about(8)", 4);
        t.is("turn(0, 1)", 1).is("about(8)", 5).is("join(0, 2)", 0).is("about(8)", 6);
        t.refuses("turn(0, 0)", BAD).refuses("lay(0, 2)", BAD).refuses("shift(0, 8)", BAD).refuses("join(0, 2)", LATE);
        t.is("keep(0)", 3).is("plan(-1)", 0).is("seed(1)", 0).is("see(0, 0, 0)", 1).is("about(8)", 6);
        // NONE is no error, neither as what run() returns nor as what lay() does.
        t.made(RESTLESS).is("run()", NONE).is("about(8)", 1).is("undo()", 0).is("about(3)", 0);
        t.made("S1-").is("lay(0, -9)", NONE).is("about(8)", 1).is("undo()", 0);
    }

    private static void oldOffsetsOfActs() {
        Trial t = Trial.of(14, "By all of them but round() the old offsets are removed (by run() after its rounds, which"
            + " begin with them).");
        for (String act : new String[] {"turn(2, 3)", "lay(2, 0)", "lay(3, -9)", "shift(3, 0)", "join(2, 3)"}) {
            t.made(PAIR_ASIDE).is("round()", 1).is("station(0, 2)", 0).does(act);
            t.are("station(#, 2)", NONE, NONE, NONE, NONE).is("station(0, 1)", 1).is("about(3)", 1);
        }
        // A round removes those that were there, but not those that it brings.
        t.made("S3aS3aL01").is("round()", 1).is("round()", 1).are("station(#, 2)", NONE, 0);
        // Without the old offset the field would be quiet, and no round would follow.
        t.made("S1aS2aL01").is("round()", 1).is("run()", 2).is("about(3)", 3);
        t.made("S1aS2aL01").is("round()", 1).is("shift(0, 0)", 0).is("run()", 0).is("about(3)", 1);
        t.made(OLD_AFTER_40).times(40, "round()").is("about(6)", 0).is("station(5, 2)", 1);
        t.made(OLD_AFTER_40).is("run()", NONE).is("about(6)", 1).is("station(5, 2)", NONE).is("run()", 0);
    }

    private static void fourteenActs() {
        Trial t = Trial.of(14, "The last 14 acts are remembered");
        t.made("S3h").are("lay(0, #)", 7, 0, 1, 2, 3, 4, 5, 6).are("lay(0, #)", 7, 0, 1, 2, 3).is("about(8)", 13);
        t.is("lay(0, 5)", 4).is("about(8)", 14);
        for (int left = 13; left >= 0; left--) {
            t.is("undo()", left);
        }
        t.is("station(0, 1)", 7).refuses("undo()", LATE);
        // With a fifteenth act the first one, lay(0, 0), is forgotten, and what was before it does not come back.
        t.made("S3h").are("lay(0, #)", 7, 0, 1, 2, 3, 4, 5, 6).are("lay(0, #)", 7, 0, 1, 2, 3, 4);
        t.is("about(8)", 14).is("lay(0, 7)", 5).is("about(8)", 14);
        t.times(14, "undo()").is("station(0, 1)", 0).refuses("undo()", LATE);
        t.made("S3a").is("lay(0, 5)", 0).times(14, "round()").times(14, "undo()").is("station(0, 1)", 5);
        t.refuses("undo()", LATE);

        t = Trial.of(14, "the last one can be undone, by which links, offsets, old offsets and the round number are as they"
            + " were before it");
        for (String act : new String[] {"round()", "turn(0, 1)", "turn(2, 3)", "lay(0, -9)", "lay(3, 0)", "shift(0, 3)",
            "join(0, 3)", "run()"}) {
            t.rich().is("station(0, 2)", 0).does(act).is("undo()", 3).are("station(#, 2)", 0, NONE, NONE, NONE);
            t.are("station(#, 1)", 1, 0, 6, 0).are("station(#, 5)", 2, 5, 2, 0).is("about(3)", 1);
            t.is("station(0, 4)", 255).are("station(#, 7)", 480, 436, 802, 778).is("station(0, 6)", 6);
            t.is("undo()", 2).is("about(3)", 0).is("station(3, 1)", NONE);
        }
    }

    // ---- Promises 8 to 11

    private static void round() {
        Trial t = Trial.of(8, "Returns how many stations have another offset then (also those that had none or have none"
            + " then).");
        t.is("round()", 0);
        t.made("S1aS1b").is("round()", 0);
        t.made("S1aS1aL01").is("round()", 1);
        t.made("S1-").is("round()", 1).is("round()", 0);
        t.made(EIGHT_WITHOUT).is("round()", 8).is("round()", 0);
        t.made("S1aS1aS1bL01L02").is("round()", 1).is("station(0, 1)", NONE).is("round()", 0);
        t.made("S1-S1aS1bL01L02").is("round()", 0);
    }

    private static void turn() {
        Trial t = Trial.of(9, "Adds the link between two stations if there is none, otherwise removes it.");
        t.made("S1aS1aS1aL01").is("turn(1, 0)", 0).is("about(1)", 0).is("turn(1, 0)", 1).is("about(1)", 1);
        t.is("turn(0, 2)", 1).are("station(#, 5)", 6, 1, 1).is("turn(2, 0)", 0).are("station(#, 5)", 2, 1, 0);
        t.made(FieldBoundaries.longest()).is("turn(6, 7)", 0).is("about(1)", 27).is("turn(6, 7)", 1);
        t.is("about(1)", 28);

        t = Trial.of(9, "Returns 1 if there is a link then, else 0; or UNKNOWN, BAD if they are the same.");
        t.refusesOutside("turn(#, 0)", 0, -1, UNKNOWN).refuses("turn(0, 0)", UNKNOWN);
        t.rich().refusesOutside("turn(#, 0)", 0, 3, UNKNOWN).refusesOutside("turn(3, #)", 0, 3, UNKNOWN);
        t.refuses("turn(4, 4)", UNKNOWN).refuses("turn(-1, -1)", UNKNOWN);
        t.refuses("turn(0, 0)", BAD).refuses("turn(3, 3)", BAD);
        t.is("turn(0, 3)", 1).is("turn(3, 0)", 0).is("turn(2, 3)", 1);
    }

    private static void lay() {
        Trial t = Trial.of(10, "`offset`: the new offset, 0 to its period minus 1, or NONE");
        t.made("S1-S2-S3-").is("lay(0, 0)", NONE).is("lay(0, 1)", 0).refusesOutside("lay(0, #)", 0, 1, BAD);
        t.is("lay(1, 0)", NONE).is("lay(1, 3)", 0).refusesOutside("lay(1, #)", 0, 3, BAD);
        t.is("lay(2, 0)", NONE).is("lay(2, 7)", 0).refusesOutside("lay(2, #)", 0, 7, BAD);
        t.refuses("lay(2, -8)", BAD).refuses("lay(2, -10)", BAD).are("station(#, 1)", 1, 3, 7);
        t.is("lay(2, -9)", 7).is("station(2, 1)", NONE);

        t = Trial.of(10, "Returns the previous offset, or NONE; or UNKNOWN, BAD.");
        t.refusesOutside("lay(#, 0)", 0, -1, UNKNOWN).refuses("lay(0, -9)", UNKNOWN);
        t.rich().refusesOutside("lay(#, 0)", 0, 3, UNKNOWN).refusesOutside("lay(#, -9)", 0, 3, UNKNOWN);
        t.refuses("lay(4, 8)", UNKNOWN).refuses("lay(-1, -1)", UNKNOWN).refuses("lay(0, 2)", BAD);
        t.is("lay(3, -9)", 0).is("lay(3, -9)", NONE).is("lay(3, 3)", NONE).is("lay(3, 3)", 3).is("lay(0, 0)", 1);
    }

    private static void shift() {
        Trial t = Trial.of(11, "`d`: 0 to 7");
        t.made("S3aS3b").are("shift(0, #)", 0, 0, 0, 0, 0, 0, 0, 0).is("station(0, 1)", 4);
        t.refusesOutside("shift(0, #)", 0, 7, BAD).is("station(0, 1)", 4);
        t.rich().refusesOutside("shift(0, #)", 0, 7, BAD).refusesOutside("shift(3, #)", 0, 7, BAD);

        t = Trial.of(11, "Returns the number of conflicts then; or UNKNOWN, BAD.");
        t.refusesOutside("shift(#, 0)", 0, -1, UNKNOWN);
        t.rich().refusesOutside("shift(#, 0)", 0, 3, UNKNOWN).refuses("shift(4, 8)", UNKNOWN);
        t.refuses("shift(-1, -1)", UNKNOWN).is("shift(3, 0)", 0).is("shift(0, 7)", 0);
        t.made("S1aS1aL01").is("shift(0, 1)", 1).made(FieldBoundaries.longest()).is("shift(7, 1)", 28);
    }

    // ---- Promise 12

    private static void joinMovesTheSmallerNet() {
        Trial t = Trial.of(12, "Links two stations of different nets and shifts one of these nets: the one with fewer"
            + " stations");
        t.made("S3aS3aS3aL12").is("join(0, 1)", 1).are("station(#, 1)", 1, 0, 0).are("station(#, 5)", 2, 5, 2);
        t.made("S3aS3aS3aL12").is("join(2, 0)", 1).are("station(#, 1)", 1, 0, 0).are("station(#, 5)", 4, 4, 3);
        t.made("S3aS3aS3aL01").is("join(0, 2)", 1).are("station(#, 1)", 0, 0, 1);
        t.made("S3aS3aS3aL01").is("join(2, 1)", 1).are("station(#, 1)", 0, 0, 1);
        t.made("S3aS3aS3aS3aS3aS3aS3aS3aL01L12L34L45L56L67").is("join(2, 3)", 1);
        t.are("station(#, 1)", 1, 1, 1, 0, 0, 0, 0, 0);
        // A net that is neither of the two stays, however small it is.
        t.made("S3aS3aS3a").is("join(1, 2)", 1).are("station(#, 1)", 0, 0, 1);

        t = Trial.of(12, "if they have equally many, the one that does not contain the lower of their lowest stations");
        t.made("S3aS3a").is("join(0, 1)", 1).are("station(#, 1)", 0, 1);
        t.made("S3aS3a").is("join(1, 0)", 1).are("station(#, 1)", 0, 1);
        t.made("S3aS3aS3aS3aL03L12").is("join(3, 1)", 1).are("station(#, 1)", 0, 1, 1, 0);
        t.made("S3aS3aS3aS3aL03L12").is("join(2, 0)", 1).are("station(#, 1)", 0, 1, 1, 0);
        t.made("S3aS3aS3aS3aL02L13").is("join(2, 3)", 1).are("station(#, 1)", 0, 1, 0, 1);
        // The net of the higher highest station is the one that stays here.
        t.made("S3aS3aS3aS3aL03L12").is("join(0, 1)", 1).are("station(#, 1)", 0, 1, 1, 0);
    }

    private static void joinShifts() {
        Trial t = Trial.of(12, "It is shifted by the d from 0 to 7 for which the field has the fewest conflicts then, with"
            + " the link and without old offsets; the smallest d of several.");
        t.made("S3aS3b").is("join(0, 1)", 0).are("station(#, 1)", 0, 1);
        t.made("S3-S3-").is("join(0, 1)", 0);
        t.made("S3aS3a").is("about(2)", 0).is("join(0, 1)", 1).is("about(2)", 0);
        // Seven stations leave one tick to the eighth, and it stands just below it: 0, or just above: 1.
        t.made("S3bS3cS3dS3eS3fS3gS3hS3bL01L02L03L04L05L06").is("join(0, 7)", 7).is("station(7, 1)", 0);
        t.made("S3aS3cS3dS3eS3fS3gS3hS3aL01L02L03L04L05L06").is("join(0, 7)", 1).is("station(7, 1)", 1);
        t.made("S3bS3cS3dS3eS3fS3gS3hS3aL01L02L03L04L05L06").is("join(0, 7)", 0).is("station(7, 1)", 0);
        // No tick is left, but at 5, 6 and 7 the eighth station has one conflict only: 5 from a is d = 5, 7 from h is 0.
        t.made("S1aS1bS3aS3bS3cS3dS3eS3aL01L02L03L04L05L06").is("about(2)", 5).is("join(0, 7)", 5);
        t.is("station(7, 1)", 5).is("about(2)", 6);
        t.made("S1aS1bS3aS3bS3cS3dS3eS3hL01L02L03L04L05L06").is("join(0, 7)", 0).is("about(2)", 6);
        t.made("S1aS1aS3bL12").is("join(0, 1)", 0).is("about(2)", 1);
        t.made("S1bS1aS1bS1bS1bL12L13L14").is("join(0, 1)", 1).is("station(0, 1)", 0).is("about(2)", 4);
        t.made(PAIR_ASIDE).is("round()", 1).is("join(2, 3)", 1).are("station(#, 2)", NONE, NONE, NONE, NONE);
        // The old offset 0 of station 0 stands in nobody's way: offset 0 is best for station 2.
        t.made("S3aS3aS3aL01").is("round()", 1).is("station(0, 2)", 0).is("lay(1, 5)", 0).is("join(2, 0)", 0);
    }

    private static void join() {
        Trial t = Trial.of(12, "Returns d; or UNKNOWN, BAD if they are the same, LATE if they are in the same net.");
        t.refusesOutside("join(#, 0)", 0, -1, UNKNOWN);
        t.rich().refusesOutside("join(#, 0)", 0, 3, UNKNOWN).refusesOutside("join(3, #)", 0, 3, UNKNOWN);
        t.refuses("join(4, 4)", UNKNOWN).refuses("join(0, 0)", BAD).refuses("join(3, 3)", BAD);
        t.refuses("join(0, 1)", LATE).refuses("join(1, 0)", LATE).refuses("join(0, 2)", LATE);
        t.is("join(0, 3)", 2).refuses("join(3, 2)", LATE).refuses("join(0, 3)", LATE);
        t.is("turn(0, 3)", 0).is("join(3, 2)", 1);
        t.made("S1aS1aS1aS1aS1aS1aS1aS1aL01L12L23L34L45L56L67").refuses("join(0, 7)", LATE).is("turn(3, 4)", 0);
        t.is("join(0, 7)", 1);
    }

    // ---- Promises 13 and 14

    private static void runAnswers() {
        Trial t = Trial.of(13, "Returns how many rounds it has; NONE if the field is not quiet after 40 rounds (which are"
            + " carried out).");
        t.made("S1aS1bL01").is("run()", 0).is("run()", 0).made("S1-").is("run()", 1);
        t.made(QUIET_AFTER_39).is("run()", 39).are("station(#, 1)", 0, NONE, NONE, NONE, NONE, 1);
        t.made(QUIET_AFTER_40).is("run()", 40).are("station(#, 1)", 0, 1, 0, 0, NONE, 1, NONE);
        t.made(QUIET_AFTER_41).is("run()", NONE).are("station(#, 1)", NONE, 1, 1, 3, NONE, 0).is("about(3)", 40);
        t.is("about(8)", 1).is("undo()", 0).are("station(#, 1)", 0, 0, NONE, 3, NONE, 0).is("about(3)", 0);
        // That the old offsets go after its rounds does not make it quiet after them.
        t.made(OLD_AFTER_40).is("run()", NONE).is("about(3)", 40).is("run()", 0);
    }

    private static void undo() {
        Trial t = Trial.of(14, "Returns how many are still remembered; or LATE if none is.");
        t.refuses("undo()", LATE).is("round()", 0).is("undo()", 0).refuses("undo()", LATE);
        t.made("S1aS1a").refuses("undo()", LATE).times(15, "shift(0, 1)").is("undo()", 13).times(12, "undo()");
        t.is("undo()", 0).refuses("undo()", LATE).is("shift(0, 1)", 0).is("undo()", 0).refuses("undo()", LATE);
        t.rich().is("undo()", 2).is("undo()", 1).is("undo()", 0).refuses("undo()", LATE);
        t.rich().is("again(0)", 4).refuses("undo()", LATE);
        t.rich().is("keep(1)", 4).is("again(1)", 4).is("station(0, 2)", 0).refuses("undo()", LATE);
    }
}
