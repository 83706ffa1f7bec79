/** Promises 24 to 29: a test for each sentence that names a boundary case of shares, chance and slots. */
final class ChanceBoundaries {
    private static final int UNKNOWN = Trial.UNKNOWN, BAD = Trial.BAD, LATE = Trial.LATE, NONE = Trial.NONE;
    // Three stations of period 2, each near to each: only two of them can have an offset.
    private static final String CROWD = "S1aS1aS1aL01L12";
    private static final String STAR_OF_EIGHT = "S1-S1-S1-S1-S1-S1-S1-S1-L01L02L03L04L05L06L07";

    private ChanceBoundaries() { }

    static void run() {
        fractions();
        onlySomeAreOn();
        runsFromNothing();
        alsoIfNotQuiet();
        orders();
        share();
        probabilities();
        off();
        seed();
        draws();
        drawn();
        keeps();
        keep();
        bringsBack();
        again();
    }

    // ---- Promises 24 and 25

    private static void share(Trial t, int station, long upper, long lower) {
        t.is("share(" + station + ", true)", upper).is("share(" + station + ", false)", lower);
    }

    private static void off(Trial t, int x, long upper, long lower) {
        t.is("off(" + x + ", true)", upper).is("off(" + x + ", false)", lower);
    }

    private static void fractions() {
        Trial t = Trial.of(24, "Fractions are in lowest terms with positive denominators; 0 is 0 / 1.");
        share(t.made("S1-"), 0, 1, 1);
        share(t.made(CROWD), 0, 2, 3);
        // The middle of a star with four others: 1, 1, 0, -1 and -2 in a fifth of all orders each.
        share(t.made("S1-S1-S1-S1-S1-L01L02L03L04"), 0, -1, 5);
        // With 1, 1, 0, -1, -2 and -3 in a sixth of all orders each: -4 / 6.
        share(t.made("S1-S1-S1-S1-S1-S1-L01L02L03L04L05"), 0, -2, 3);
        // The middle of a star of period 4 with six others: 1, 1, 1, 1, 0, -1, -2.
        share(t.made("S2-S2-S2-S2-S2-S2-S2-L01L02L03L04L05L06"), 0, 1, 7);
        off(t.made(CROWD), 0, 0, 1);
        off(t, 5, 7, 8);
        off(t, 10, 1, 1);
        off(t.made("S1-S1-"), 5, 1, 1);
    }

    private static void onlySomeAreOn() {
        Trial t = Trial.of(24, "If only some stations are on, the others have no links and are ignored in everything");
        // While their middle is off, the ends are not near to each other; with it on, one of four is left out.
        share(t.made("S1aS1aS1aS1aL01L02L03"), 0, 1, 4);
        share(t, 1, 7, 12);
        // Station 1 stands at the only offset that station 0 could have, if it were not ignored.
        share(t.made("S1-S1-"), 0, 1, 1);
        share(t, 1, 1, 1);
        // Bad is only the middle with two or three of the three ends: half of a half.
        off(t.made("S1aS1aS1aS1aL01L02L03"), 5, 3, 4);
    }

    private static void runsFromNothing() {
        Trial t = Trial.of(24, "let the result be the number of those that are on and have an offset after a run that begins"
            + " with round number 0 and without offsets");
        // With the offsets that they have, station 2 would find nothing free; without them all find something.
        share(t.made("S3aS3bS1-L01L12"), 2, 1, 1);
        share(t, 0, 1, 1);
        share(t.made("S1-S1-S1-S1-L01L12L23"), 0, 11, 12);
        for (String act : new String[] {"lay(0, 1)", "round()", "run()", "shift(3, 1)"}) {
            share(t.does(act), 0, 11, 12);
        }
        // Any two of the three find an offset, all three never do; what they have now, or had before, is not there.
        share(t.made("S2aS1bS2-S3hL01L02"), 0, 2, 3);
        share(t.made("S2dS1bS2cL01L12"), 0, 2, 3);
        share(t.is("round()", 1).is("station(0, 2)", 3), 0, 2, 3);
        t.rich().leaves("share(0, true)", 1).leaves("share(0, false)", 1).leaves("share(3, true)", 1);
    }

    private static void alsoIfNotQuiet() {
        // A run from nothing is quiet after 14 rounds at most, as each station has been above all others by then,
        // so this can only show that it does not matter what a run from the present offsets would do.
        Trial t = Trial.of(24, "(also if the field is not quiet after 40 rounds)");
        t.made(ActBoundaries.RESTLESS).is("ahead(0)", NONE);
        share(t, 2, -2, 3);
        share(t, 0, 8, 15);
        off(t, 0, 0, 1);
        share(t.made(ActBoundaries.QUIET_AFTER_41).is("ahead(0)", NONE), 3, 1, 1);
    }

    private static void orders() {
        Trial t = Trial.of(24, "The stations are switched on one after the other; the share is the increase of the result"
            + " when this station is switched on, as the mean over all orders.");
        share(t.made("S1-"), 0, 1, 1);
        share(t.made("S1-S1-S1-S1-S1-S1-S1-S1-"), 7, 1, 1);
        for (int v = 0; v < 3; v++) {
            share(t.made(CROWD), v, 2, 3);
        }
        // The shares of all stations are together what there is with all on: 2 of 4.
        t.made("S1-S1-S1-S1-L01L02L03");
        share(t, 0, 1, 4);
        share(t, 3, 7, 12);

        t = Trial.of(24, "It is a fraction; the numerator may be negative.");
        share(t.made("S1-S1-S1-S1-L01L02L03"), 0, 1, 4);
        share(t.made("S1-S1-S1-S1-S1-L01L02L03L04"), 0, -1, 5);
        share(t.made(STAR_OF_EIGHT), 0, -13, 8);
        share(t, 7, 29, 56);
    }

    private static void share() {
        Trial t = Trial.of(24, "Returns the number; or UNKNOWN.");
        t.refusesOutside("share(#, true)", 0, -1, UNKNOWN).refuses("share(0, false)", UNKNOWN);
        t.rich().refusesOutside("share(#, true)", 0, 3, UNKNOWN).refusesOutside("share(#, false)", 0, 3, UNKNOWN);
        t.leaves("share(3, false)", 1);
        t.made(STAR_OF_EIGHT).is("share(7, false)", 56).refusesOutside("share(#, false)", 0, 7, UNKNOWN);
    }

    private static void probabilities() {
        Trial t = Trial.of(25, "Returns the probability that, if each station is off with the probability x / 10,"
            + " independently, all stations that are on have an offset after a run as for share().");
        off(t.made(CROWD), 0, 0, 1);
        // One less than all three on, with a probability of 9/10, 1/2 and 1/10 each.
        off(t, 1, 271, 1000);
        off(t, 5, 7, 8);
        off(t, 9, 999, 1000);
        off(t, 10, 1, 1);
        off(t.made("S1-S1-L01"), 0, 1, 1);
        off(t.made("S2dS1bS2cL01L12"), 5, 7, 8);
        off(t.is("round()", 1).is("station(0, 2)", 3), 5, 7, 8);
        off(t.made("S2aS1bS2-S3hL01L02"), 5, 7, 8);
        // A star of eight: without its middle (9/10), or with it and at most one of seven others.
        off(t.made(STAR_OF_EIGHT), 9, 6156441, 6250000);
        off(t, 0, 0, 1);
    }

    private static void off() {
        Trial t = Trial.of(25, "`x`: 0 to 10");
        t.are("off(#, true)", 1, 1, 1, 1, 1, 1, 1, 1, 1, 1, 1).refusesOutside("off(#, true)", 0, 10, BAD);
        t.refusesOutside("off(#, false)", 0, 10, BAD);
        t.rich().leaves("off(0, true)", 1).leaves("off(10, false)", 1).refusesOutside("off(#, true)", 0, 10, BAD);
        t.made(CROWD).are("off(#, true)", 0, 271, 61, 657, 98, 7, 117, 973, 124, 999, 1);
        t.are("off(#, false)", 1, 1000, 125, 1000, 125, 8, 125, 1000, 125, 1000, 1);

        t = Trial.of(25, "Returns the number; or BAD.");
        t.is("off(0, true)", 1).is("off(10, true)", 1).refusesOutside("off(#, true)", 0, 10, BAD);
        t.rich().refusesOutside("off(#, false)", 0, 10, BAD);
    }

    // ---- Promises 26 and 27

    private static void seed() {
        Trial t = Trial.of(26, "Returns the previous one.");
        t.is("seed(" + Long.MIN_VALUE + ")", 0).is("seed(" + Long.MAX_VALUE + ")", Long.MIN_VALUE);
        t.is("seed(-1)", Long.MAX_VALUE).is("seed(4294967296)", -1).is("seed(0)", 4294967296L).is("seed(0)", 0);

        t = Trial.of(26, "`v`: the new random state");
        t.rich().is("seed(" + Long.MIN_VALUE + ")", 77).is("drawn(1)", 1).is("about(8)", 3).is("station(0, 2)", 0);
        t.made("S1a").is("seed(1)", 0).is("drawn(1)", 0).is("seed(1)", 7806831264735756412L);
    }

    private static void draws() {
        Trial t = Trial.of(27, "m times each station, from 0 on, gets a random offset, with the present links and without"
            + " old offsets, and a run begins with round number 0.");
        t.is("drawn(10)", 0).is("seed(0)", 0);
        // One station takes one number, and three stations twice take six.
        t.made("S1a").does("drawn(1)").is("seed(0)", 1442695040888963407L);
        t.made("S1-S2-S3-").does("drawn(2)").is("seed(0)", state(0, 6));
        // Three of the ten draws have a conflict, and then a run has three rounds.
        t.made("S1aS2aL01").is("drawn(10)", 9);
        t.made("S1aS2aL01").does("round()").is("station(0, 2)", 0).is("drawn(10)", 9);
        t.made("S1aS2a").does("turn(0, 1)", "round()").is("drawn(10)", 9).is("seed(0)", state(0, 20));
        offsetsAreThose(t, "S1-S3-S2-L01L12");

        t = Trial.of(27, "For a random offset, the random state x becomes x * 6364136223846793005 + 1442695040888963407 in"
            + " long arithmetic, which may overflow; the offset is (x >>> 33) modulo the period.");
        for (long first : new long[] {0, 1, -1, Long.MIN_VALUE, Long.MAX_VALUE, 4294967296L}) {
            t.made("S3-").does("seed(" + first + ")").is("drawn(1)", 0).is("seed(0)", state(first, 1));
        }
        offsetsAreThose(t, "S1-S2-S3-S3-L01L12L23");

        t = Trial.of(27, "Only the random state is changed.");
        t.rich().does("drawn(10)").is("seed(77)", state(77, 40)).leaves("about(3)", 1);
        t.are("station(#, 1)", 1, 0, 6, 0).are("station(#, 2)", 0, NONE, NONE, NONE).is("about(8)", 3);
        t.are("station(#, 5)", 2, 5, 2, 0).is("unsee()", 2).is("undo()", 2).is("again(1)", 4).is("station(2, 1)", 6);
    }

    private static long state(long first, int draws) {
        long x = first;
        for (int k = 0; k < draws; k++) {
            x = x * 6364136223846793005L + 1442695040888963407L;
        }
        return x;
    }

    /** A run from the offsets that the sentence names, laid by hand, has as many rounds as drawn(1) says. */
    private static void offsetsAreThose(Trial t, String text) {
        for (long first = -20; first <= 20; first++) {
            long seed = first * 1234567890123456789L;
            PeriodSlots laid = Due.made(text);
            for (int v = 0; v < laid.about(0); v++) {
                laid.lay(v, (int) ((state(seed, v + 1) >>> 33) % laid.station(v, 0)));
            }
            t.made(text).does("seed(" + seed + ")").is("drawn(1)", laid.run());
        }
    }

    private static void drawn() {
        Trial t = Trial.of(27, "`m`: 1 to 10");
        t.refusesOutside("drawn(#)", 1, 10, BAD);
        t.rich().refusesOutside("drawn(#)", 1, 10, BAD).is("drawn(1)", 1).is("seed(0)", state(77, 4));
        t.does("drawn(10)").is("seed(0)", state(0, 40));

        t = Trial.of(27, "Returns the sum of the numbers of rounds of all runs (40 for a run after which the field is not"
            + " quiet); or BAD.");
        t.refuses("drawn(0)", BAD).refuses("drawn(11)", BAD).is("drawn(1)", 0).is("drawn(10)", 0);
        t.made("S1aS1a").is("drawn(10)", 0);
        // With the random state 1 the first run is not quiet after 40 rounds, and the second one has 35.
        t.made(ActBoundaries.RESTLESS).does("seed(3)").is("drawn(1)", 40).does("seed(1)").is("drawn(1)", 40);
        t.does("seed(1)").is("drawn(2)", 75).is("seed(0)", state(1, 12));
        // This one is quiet after just 40 rounds.
        t.made("S1aS1-S1aS3-S1-S2cS3-S1aL01L03L04L05L13L14L27L34L45L47L56L67").is("seed(0)", 0).is("drawn(1)", 40);
    }

    // ---- Promises 28 and 29

    private static void keeps() {
        Trial t = Trial.of(28, "Keeps links, offsets, old offsets and the round number in a slot, in place of what it kept"
            + " before.");
        t.made("S3aS3aS3-L01").is("keep(0)", 3).is("round()", 2).is("keep(1)", 3).is("turn(1, 2)", 1).does("run()");
        t.is("again(1)", 3).are("station(#, 1)", 1, 0, 0).are("station(#, 2)", 0, NONE, NONE).is("about(3)", 1);
        t.are("station(#, 5)", 2, 1, 0).are("station(#, 4)", 3, 1, 1).is("station(0, 7)", 480).is("about(4)", 2);
        t.is("again(0)", 3).are("station(#, 1)", 0, 0, NONE).are("station(#, 2)", NONE, NONE, NONE).is("about(3)", 0);
        t.is("turn(0, 2)", 1).is("keep(0)", 3).is("turn(0, 1)", 0).is("again(0)", 3).are("station(#, 5)", 6, 1, 1);
        t.is("again(1)", 3).are("station(#, 5)", 2, 1, 0).are("station(#, 2)", 0, NONE, NONE);
    }

    private static void keep() {
        Trial t = Trial.of(28, "`slot`: the slot, 0 or 1");
        t.is("keep(0)", 0).is("keep(1)", 0).refusesOutside("keep(#)", 0, 1, UNKNOWN);
        t.rich().refusesOutside("keep(#)", 0, 1, UNKNOWN);

        t = Trial.of(28, "Returns how many stations there are; or UNKNOWN.");
        t.refusesOutside("keep(#)", 0, 1, UNKNOWN).refuses("again(0)", LATE).is("keep(1)", 0).is("again(1)", 0);
        t.made("S1a").is("keep(0)", 1).is("keep(1)", 1);
        t.made("S1aS1aS1aS1aS1aS1aS1aS1a").is("keep(0)", 8).is("keep(1)", 8).is("keep(2)", UNKNOWN);
        t.rich().is("keep(0)", 4).is("about(8)", 3).is("station(0, 2)", 0);
    }

    private static void bringsBack() {
        Trial t = Trial.of(29, "No acts are remembered then.");
        t.rich().is("about(8)", 3).is("again(0)", 4).is("about(8)", 0).refuses("undo()", LATE).is("round()", 2);
        t.is("about(8)", 1).is("undo()", 0).refuses("undo()", LATE);
        t.made("S1a").does("keep(1)").times(15, "round()").is("again(1)", 1).is("about(8)", 0).refuses("undo()", LATE);

        t = Trial.of(29, "The slot stays.");
        t.rich().is("again(0)", 4).is("lay(2, 7)", 2).is("turn(0, 1)", 0).is("again(0)", 4).is("station(2, 1)", 2);
        t.is("about(1)", 2).is("round()", 2).is("again(0)", 4).is("about(3)", 0).is("station(2, 1)", 2);
        t.is("again(1)", 4).is("station(2, 1)", 6).is("again(0)", 4).is("station(2, 1)", 2);
    }

    private static void again() {
        Trial t = Trial.of(29, "`slot`: the slot, 0 or 1");
        t.is("keep(0)", 0).is("keep(1)", 0).is("again(0)", 0).is("again(1)", 0);
        t.refusesOutside("again(#)", 0, 1, UNKNOWN);
        t.rich().refusesOutside("again(#)", 0, 1, UNKNOWN).is("again(0)", 4).is("again(1)", 4);

        t = Trial.of(29, "Returns how many stations there are; or UNKNOWN, LATE if nothing has been kept.");
        t.refuses("again(0)", LATE).refuses("again(1)", LATE).refusesOutside("again(#)", 0, 1, UNKNOWN);
        t.is("keep(1)", 0).refuses("again(0)", LATE).is("again(1)", 0);
        t.made("S1aS1aL01").is("keep(0)", 2).is("round()", 1).refuses("again(1)", LATE).is("again(0)", 2);
        t.is("station(0, 1)", 0).is("field()", 2).is("round()", 1).refuses("again(0)", LATE).refuses("again(1)", LATE);
        t.made("S1aS1aS1aS1aS1aS1aS1aS1a").is("keep(1)", 8).is("again(1)", 8).refuses("again(0)", LATE);
    }
}
