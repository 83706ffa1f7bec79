/** Promises 1 to 7: a test for each sentence that names a boundary case of the field and its text. */
final class FieldBoundaries {
    private static final int UNKNOWN = Trial.UNKNOWN, BAD = Trial.BAD, LATE = Trial.LATE, FULL = Trial.FULL;
    private static final int NONE = Trial.NONE;
    private static final String EIGHT = "S1aS1aS1aS1aS1aS1aS1aS1a";

    private FieldBoundaries() { }

    static void run() {
        newObject();
        callsOfAnObject();
        text();
        textOfStations();
        textOfLinks();
        errorPosition();
        examplesOfErrorPositions();
        write();
        wipe();
        fault();
        field();
        stations();
        ticks();
        links();
        nets();
        conflicts();
        about();
        station();
    }

    /** The text of eight stations that are all linked with one another: the longest correct text, 108 bytes. */
    static String longest() {
        StringBuilder all = new StringBuilder(EIGHT);
        for (int i = 0; i < 8; i++) {
            for (int j = i + 1; j < 8; j++) {
                all.append('L').append(i).append(j);
            }
        }
        return all.toString();
    }

    // ---- Promise 1

    private static void newObject() {
        Trial t = Trial.of(1, "Creates a field without stations, with an empty text buffer, no observations and"
            + " empty slots; the random state is 0.");
        t.are("about(#)", 0, 0, 0, 0, 0, 0, 1, 0, 0, 0, 0).is("station(0, 0)", UNKNOWN);
        t.refuses("again(0)", LATE).refuses("again(1)", LATE).refuses("undo()", LATE);
        t.leaves("fault()", NONE);
        t.is("unsee()", 0).is("wipe()", 0).is("seed(1)", 0);
        // Nothing that one object holds stands in the next.
        t.rich().fresh().are("about(#)", 0, 0, 0, 0, 0, 0, 1, 0, 0, 0, 0);
        t.is("again(0)", LATE).is("again(1)", LATE).is("seed(1)", 0);
    }

    private static void callsOfAnObject() {
        Trial t = Trial.of(8, "An object is used for at most 512 calls after it has been made; what later calls"
            + " answer is free.");
        t.times(509, "round()").is("about(3)", 509).is("about(8)", 14).is("undo()", 13);
        t.fresh();
        t.made("S3aS3aL01").times(502, "shift(0, 1)").is("station(0, 1)", 6).is("about(8)", 14).is("undo()", 13);
    }

    // ---- Promise 4, and the text of a field

    private static void text() {
        Trial t = Trial.of(2, "The text buffer holds at most 110 bytes.");
        t.type(longest() + "L").is("about(10)", 109).is("write(48)", 110).is("about(10)", 110);
        t.refuses("write(49)", FULL);
        t.is("wipe()", 110).is("write(49)", 1);

        t = Trial.of(5, "A text consists of parts, perhaps none");
        t.fault("", NONE).is("about(0)", 0);
        t.fault("S1a", NONE).is("about(0)", 1);
        t.fault(longest(), NONE).is("about(0)", 8).is("about(1)", 28);
        t.fault(" ", 0);
        t.fault("S1a ", 3);
    }

    private static void textOfStations() {
        Trial t = Trial.of(4, "S, a digit 1, 2 or 3 for the period 2, 4 or 8");
        t.fault("S0a", 1);
        t.fault("S/a", 1);
        t.fault("S4a", 1);
        t.fault("S\u00ffa", 1);
        t.fault("S1a", NONE).is("station(0, 0)", 2);
        t.fault("S2a", NONE).is("station(0, 0)", 4);
        t.fault("S3a", NONE).is("station(0, 0)", 8);

        t = Trial.of(4, "and a letter for the offset (a for 0, b for 1, and so on, less than the period)");
        t.fault("S1`", 2).fault("S1a", NONE).is("station(0, 1)", 0);
        t.fault("S1c", 2).fault("S1b", NONE).is("station(0, 1)", 1);
        t.fault("S2`", 2).fault("S2a", NONE).is("station(0, 1)", 0);
        t.fault("S2e", 2).fault("S2d", NONE).is("station(0, 1)", 3);
        t.fault("S3`", 2).fault("S3a", NONE).is("station(0, 1)", 0);
        t.fault("S3i", 2).fault("S3h", NONE).is("station(0, 1)", 7);
        t.fault("S3A", 2);
        t.fault("S30", 2);

        t = Trial.of(4, "or - for none: one more station");
        t.fault("S1-", NONE).is("station(0, 1)", NONE);
        t.fault("S3-", NONE).is("station(0, 1)", NONE);
        t.fault("S3,", 2);
        t.fault("S3.", 2);
        // X stands nine below a, as NONE stands nine below 0.
        t.fault("S3X", 2);
    }

    private static void textOfLinks() {
        Trial t = Trial.of(4, "L and two digits for two different stations that have been described before and have"
            + " no link yet: a link");
        t.fault("S1aS1aS1aL01", NONE).are("station(#, 5)", 2, 1, 0);
        t.fault("S1aS1aS1aL20", NONE).are("station(#, 5)", 4, 0, 1);
        t.fault("S1aS1aS1aL00", 11);
        t.fault("S1aS1aS1aL22", 11);
        t.fault("S1aS1aS1aL03", 11);
        t.fault("S1aS1aS1aL30", 10);
        t.fault("S1aS1aS1aL0/", 11);
        t.fault("S1aS1aS1aL/0", 10);
        t.fault(EIGHT + "L07", NONE).is("station(7, 5)", 1);
        t.fault(EIGHT + "L08", 26);
        t.fault(EIGHT + "L80", 25);
        t.fault("S1aS1aL02S1a", 8);
        t.fault("S1aS1aS1aL02", NONE);
        t.fault("S1aS1aS1aL01L01", 14);
        t.fault("S1aS1aS1aL01L10", 14);
        t.fault("S1aS1aS1aL01L02", NONE).is("about(1)", 2);
    }

    private static void errorPosition() {
        Trial t = Trial.of(4, "The error position is the index, from 0 on, of the first byte with which the text cannot"
            + " be the beginning of any correct text");
        t.fault("X", 0);
        t.fault("1", 0);
        t.fault("\u0000", 0);
        t.fault("-", 0);
        t.fault("SXX", 1);
        t.fault("S1XX", 2);
        t.fault("S1aX", 3);
        t.fault("S9zL99", 1);
        t.fault("S1aS1aL09S9", 8);

        t = Trial.of(4, "where the limit of its length does not matter");
        t.fault(longest().substring(0, 107), 107);
        t.fault(longest(), NONE);
        t.fault(longest() + "S", 108);
        t.fault(longest() + "L0", 108);
        t.fault("S1aS1a" + "L".repeat(104), 7);

        t = Trial.of(4, "or the length of the text if it only ends too early");
        t.fault("S", 1);
        t.fault("S3", 2);
        t.fault("S3h", NONE);
        t.fault("S3hS", 4);
        t.fault("S3hS3", 5);
        t.fault("S3hS3hL", 7);
        t.fault("S3hS3hL1", 8);
        t.fault("S3hS3hL10", NONE);
    }

    private static void examplesOfErrorPositions() {
        Trial t = Trial.of(4, "for instance a ninth S");
        t.fault(EIGHT.substring(3) + "S", 22);
        t.fault(EIGHT, NONE);
        t.fault(EIGHT + "S", 24);
        t.fault(EIGHT + "S1a", 24);
        t.fault(EIGHT + "L01S", 27);

        t = Trial.of(4, "an L if all stations described so far are linked with one another");
        t.fault("L", 0);
        t.fault("S1aL", 3);
        t.fault("S1aS1aL", 7);
        t.fault("S1aS1aL01L", 9);
        t.fault("S1aS1aL01S1aL", 13);
        t.fault("S1aS1aS1aL01L02L", 16);
        t.fault("S1aS1aS1aL01L02L12L", 18);
        t.fault(longest().substring(0, 105) + "L", 106);
        t.fault(longest() + "L", 108);

        t = Trial.of(4, "the first digit of a station that is linked with all others");
        t.fault("S1aS1aS1aL01L0", 14);
        t.fault("S1aS1aS1aL01L02L0", 16);
        t.fault("S1aS1aS1aL01L02L1", 17);
        t.fault("S1aS1aS1aL01L02L2", 17);
        t.fault("S1aS1aS1aL01L02L01", 16);
        t.fault("S1aS1aS1aL01L02L10", 17);
        t.fault("S1aS1aL01S1aL0", 14);
        t.fault(longest().substring(0, 105) + "L5", 106);
        t.fault(longest().substring(0, 105) + "L6", 107);
        t.fault(longest().substring(0, 105) + "L7", 107);
    }

    private static void fault() {
        Trial t = Trial.of(4, "Returns the error position, or NONE if the text is correct.");
        t.leaves("fault()", NONE);
        t.type("S").leaves("fault()", 1);
        t.type("1").leaves("fault()", 2);
        t.type("a").leaves("fault()", NONE);
        t.type("a").leaves("fault()", 3);
        t.rich().leaves("fault()", NONE).type("S").leaves("fault()", 19);
    }

    // ---- Promises 2 and 3

    private static void write() {
        Trial t = Trial.of(2, "`letter`: the byte, 0 to 255");
        t.is("write(0)", 1).is("write(255)", 2).is("fault()", 0);
        t.refusesOutside("write(#)", 0, 255, BAD);
        t.is("write(0)", 3);
        t.rich().refusesOutside("write(#)", 0, 255, BAD);

        t = Trial.of(2, "Returns how many bytes it holds; or BAD, FULL if it holds 110.");
        t.is("write(83)", 1).is("write(49)", 2);
        t.fresh().type("S3h" + "x".repeat(106)).is("about(10)", 109);
        t.is("write(83)", 110).refuses("write(83)", FULL).refuses("write(0)", FULL).refuses("write(255)", FULL);
        t.refusesOutside("write(#)", 0, 255, BAD);
        t.is("fault()", 3).is("about(10)", 110);
    }

    private static void wipe() {
        Trial t = Trial.of(3, "Empties the text buffer.");
        t.made("S1aS1a").does("wipe()").is("about(10)", 0).is("fault()", NONE).is("about(0)", 2);
        t.type("S").is("fault()", 1).is("about(10)", 1).is("field()", LATE).is("about(0)", 2);
        t.does("wipe()").is("field()", 0).is("about(0)", 0);

        t = Trial.of(3, "Returns how many bytes it held.");
        t.leaves("wipe()", 0);
        t.type("S").is("wipe()", 1).is("wipe()", 0);
        t.type(longest() + "xx").is("wipe()", 110).is("wipe()", 0).is("write(83)", 1);
    }

    // ---- Promise 5

    private static void field() {
        Trial t = Trial.of(5, "Makes the field that the text buffer describes, in place of the one before.");
        t.made("S1aS2bS3cL01L12").does("wipe()").type("S3h").is("field()", 1);
        t.are("station(0, #)", 8, 7, NONE, 128, 128, 0, 0, 343, 255, 1).is("station(1, 0)", UNKNOWN);
        t.are("about(#)", 1, 0, 0, 0, 0, 1, 1, 1, 0, 0, 3);
        t.type("S1-").is("field()", 2).are("station(1, #)", 2, NONE, NONE, 0, 0, 0, 0, 428, 3, 2);
        t.does("wipe()").is("field()", 0).is("station(0, 0)", UNKNOWN).is("about(7)", 0);

        t = Trial.of(5, "The round number is 0, there are no old offsets, no acts are remembered, and the slots are"
            + " empty then.");
        t.rich().is("field()", 5).is("about(3)", 0).are("station(#, 2)", NONE, NONE, NONE, NONE, NONE);
        t.is("about(8)", 0).refuses("undo()", LATE).refuses("again(0)", LATE).refuses("again(1)", LATE);
        t.are("station(#, 1)", 0, 0, 2, NONE, 4).are("station(#, 5)", 2, 1, 0, 0, 0);
        t.made("S1a").does("round()", "keep(0)", "keep(1)").is("field()", 1).is("about(3)", 0).is("about(8)", 0);
        t.is("again(0)", LATE).is("again(1)", LATE);

        t = Trial.of(5, "The text buffer, the observations and the random state stay.");
        t.rich().is("field()", 5).is("about(10)", 18).is("fault()", NONE).is("about(9)", 2).is("field()", 5);
        t.is("which(0)", 0).is("unsee()", 2).is("seed(0)", 77).is("wipe()", 18);

        t = Trial.of(5, "Returns how many stations there are; or LATE if the text is not correct.");
        t.is("field()", 0).type("S1a").is("field()", 1).type(EIGHT.substring(3)).is("field()", 8);
        t.rich().type("S").refuses("field()", LATE).type("3").refuses("field()", LATE).type("i").refuses("field()", LATE);
        t.is("field()", LATE).is("about(0)", 4).is("about(8)", 3).is("station(0, 2)", 0).is("undo()", 2);
        t.is("again(1)", 4).is("again(0)", 4);
    }

    // ---- Promises 6 and 7, and stations

    private static void stations() {
        Trial t = Trial.of(5, "There are at most 8 stations, numbered from 0, at first none.");
        t.is("about(0)", 0).refuses("station(0, 0)", UNKNOWN);
        t.made(EIGHT).is("about(0)", 8).is("station(0, 0)", 2).is("station(7, 0)", 2);
        t.refuses("station(8, 0)", UNKNOWN).refuses("station(-1, 0)", UNKNOWN);
        t.type("S").refuses("field()", LATE).type("1a").refuses("field()", LATE).is("about(0)", 8);

        t = Trial.of(10, "A station has a period of 2, 4 or 8 and an offset from 0 to the period minus 1, or none.");
        t.made("S1-S2-S3-").are("station(#, 0)", 2, 4, 8).are("station(#, 1)", NONE, NONE, NONE);
        t.are("lay(#, 0)", NONE, NONE, NONE).are("station(#, 1)", 0, 0, 0);
        t.is("lay(0, 1)", 0).is("lay(1, 3)", 0).is("lay(2, 7)", 0).are("station(#, 1)", 1, 3, 7);
        t.refuses("lay(0, 2)", BAD).refuses("lay(1, 4)", BAD).refuses("lay(2, 8)", BAD).refuses("lay(2, -1)", BAD);
        t.are("station(#, 1)", 1, 3, 7);

        t = Trial.of(21, "A cycle has the ticks 0 to 7 and is repeated again and again.");
        t.made("S3aS3hL01").is("see(0, 0, 0)", 1).is("see(0, 7, 1)", 2);
        t.refuses("see(0, -1, 0)", BAD).refuses("see(0, 8, 0)", BAD);
        // Tick 0 belongs to station 0 in the next cycle, too.
        t.is("arrives(0, 1, 0)", 1).is("arrives(0, 1, 1)", 8).is("arrives(1, 0, 7)", 1).is("arrives(1, 0, 0)", 8);
    }

    private static void ticks() {
        Trial t = Trial.of(7, "The ticks of a station are those whose remainder modulo its period is its offset;"
            + " without an offset it has none.");
        t.made("S1aS1bS1-").are("station(#, 3)", 85, 170, 0);
        t.made("S2aS2bS2cS2dS2-").are("station(#, 3)", 17, 34, 68, 136, 0);
        t.made("S3aS3bS3cS3dS3eS3fS3gS3h").are("station(#, 3)", 1, 2, 4, 8, 16, 32, 64, 128);
        t.is("lay(7, -9)", 7).is("station(7, 3)", 0).is("lay(7, 0)", NONE).is("station(7, 3)", 1);

        t = Trial.of(6, "Sets are bit masks in which bit k stands for number k.");
        t.made("S3aS1-S1-S1-S1-S1-S1-S3hL07").is("about(5)", 129).is("about(4)", 126);
        t.is("station(0, 5)", 128).is("station(7, 5)", 1).is("station(0, 3)", 1).is("station(7, 3)", 128);
        t.is("station(0, 8)", 127).is("station(7, 8)", 254).is("station(7, 9)", 129).is("awake(0, 0)", 129);

        t = Trial.of(7, "It occupies its own ticks and those of its old offset (the ticks that it would have with it).");
        t.made("S3aS3aL01").are("station(#, 4)", 1, 1).is("round()", 1);
        t.are("station(#, 3)", 2, 1).are("station(#, 4)", 3, 1);
        t.made("S1aS1aL01").is("round()", 1).are("station(#, 3)", 170, 85).are("station(#, 4)", 255, 85);
        t.made("S1-").is("station(0, 4)", 0).is("round()", 1).is("station(0, 4)", 85);
    }

    private static void links() {
        Trial t = Trial.of(9, "Links connect two different stations, which are neighbours then.");
        t.made("S1aS1aS1a").are("station(#, 5)", 0, 0, 0).is("turn(0, 2)", 1).are("station(#, 5)", 4, 0, 1);
        t.refuses("turn(0, 0)", BAD).refuses("turn(1, 1)", BAD).refuses("turn(2, 2)", BAD).is("about(1)", 1);

        t = Trial.of(7, "Two different stations are near if they are neighbours or have a common neighbour.");
        t.made("S1a").is("station(0, 6)", 0);
        t.made("S1aS1a").are("station(#, 6)", 0, 0).is("turn(0, 1)", 1).are("station(#, 6)", 2, 1);
        t.made("S1aS1aS1aL02L12").are("station(#, 6)", 6, 5, 3);
        t.made("S1aS1aS1aL02L12L01").are("station(#, 6)", 6, 5, 3);
        t.made("S1aS1aS1aS1aL01L12L23").are("station(#, 6)", 6, 13, 11, 6);
        t.is("turn(1, 2)", 0).are("station(#, 6)", 2, 1, 8, 4);
        t.made(longest()).are("station(#, 6)", 254, 253, 251, 247, 239, 223, 191, 127);
    }

    private static void nets() {
        Trial t = Trial.of(7, "A net consists of a station and all stations to which links lead from it, directly or"
            + " through others.");
        t.is("about(7)", 0);
        t.made("S1a").is("station(0, 9)", 1).is("about(7)", 1);
        t.made("S1aS1a").are("station(#, 9)", 1, 2).is("about(7)", 2);
        t.is("turn(0, 1)", 1).are("station(#, 9)", 3, 3).is("about(7)", 1);
        // One chain, 0 7 1 6 2 5 3 4, and then two.
        t.made(EIGHT + "L07L71L16L62L25L53L34").is("about(7)", 1);
        t.are("station(#, 9)", 255, 255, 255, 255, 255, 255, 255, 255);
        t.is("turn(6, 2)", 0).is("about(7)", 2).are("station(#, 9)", 195, 195, 60, 60, 60, 60, 195, 195);
    }

    private static void conflicts() {
        Trial t = Trial.of(6, "The number of conflicts is the number of pairs of near stations that have a common"
            + " tick.");
        t.is("about(2)", 0);
        t.made("S1a").is("about(2)", 0);
        t.made("S1aS1a").is("about(2)", 0).is("turn(0, 1)", 1).is("about(2)", 1);
        t.made("S1aS1bL01").is("about(2)", 0);
        t.made("S1aS1-L01").is("about(2)", 0);
        t.made("S1-S1-L01").is("about(2)", 0);
        // A single common tick is enough, and many count no more.
        t.made("S1aS3gL01").is("about(2)", 1);
        t.made("S1aS3hL01").is("about(2)", 0);
        t.made("S1aS3-S1aL01L12").is("about(2)", 1);
        t.made("S1aS3-S3-S1aL01L12L23").is("about(2)", 0);
        t.made(longest()).is("about(2)", 28);
        t.made("S1aS1aL01").is("round()", 1).is("station(0, 4)", 255).is("about(2)", 0);
    }

    private static void about() {
        Trial t = Trial.of(6, "`what`: 0 of stations, 1 of links, 2 of conflicts, 3 the round number, 4 the set of"
            + " unsettled stations, 5 the set of stations that have an offset, 6 1 if the field is quiet, else 0,"
            + " 7 of nets, 8 of acts that are remembered, 9 of observations, 10 of bytes in the text buffer");
        t.are("about(#)", 0, 0, 0, 0, 0, 0, 1, 0, 0, 0, 0);
        t.made(longest()).are("about(#)", 8, 28, 28, 0, 191, 255, 0, 1, 0, 0, 108);
        t.made("S1-S1-S1-S1-S1-S1-S1-S1-").are("about(#)", 8, 0, 0, 0, 255, 0, 0, 8, 0, 0, 24);
        t.times(6, "see(7, 7, 0)").times(15, "round()");
        t.are("about(#)", 8, 0, 0, 15, 0, 255, 1, 8, 14, 6, 24);
        t.rich().are("about(#)", 4, 2, 0, 1, 2, 15, 0, 2, 3, 2, 18);

        t = Trial.of(6, "Returns the number; or BAD.");
        t.leaves("about(0)", 0).leaves("about(10)", 0).refusesOutside("about(#)", 0, 10, BAD);
        t.rich().leaves("about(0)", 4).leaves("about(10)", 18).refusesOutside("about(#)", 0, 10, BAD);
    }

    private static void station() {
        Trial t = Trial.of(7, "1 the offset (NONE if it has none)");
        t.made("S3aS3hS3-").are("station(#, 1)", 0, 7, NONE).is("lay(2, 0)", NONE).is("station(2, 1)", 0);
        t.is("lay(1, -9)", 7).is("station(1, 1)", NONE);

        t = Trial.of(7, "2 the old offset (NONE if it has none)");
        t.made("S3aS3aS3-S3hS3hL01L34").are("station(#, 2)", NONE, NONE, NONE, NONE, NONE);
        t.is("round()", 3).are("station(#, 2)", 0, NONE, NONE, 7, NONE).are("station(#, 1)", 1, 0, 0, 0, 7);
        t.is("round()", 2).are("station(#, 2)", NONE, 0, NONE, NONE, 7);

        t = Trial.of(7, "Returns the property; or UNKNOWN, BAD.");
        t.refusesOutside("station(#, 0)", 0, -1, UNKNOWN);
        t.rich().leaves("station(0, 0)", 2).leaves("station(3, 0)", 4).leaves("station(0, 9)", 7);
        t.leaves("station(3, 9)", 8).refusesOutside("station(#, 0)", 0, 3, UNKNOWN);
        t.refusesOutside("station(#, 9)", 0, 3, UNKNOWN).refusesOutside("station(0, #)", 0, 9, BAD);
        t.refusesOutside("station(3, #)", 0, 9, BAD);
        t.made("S1-").leaves("station(0, 0)", 2).refusesOutside("station(#, 0)", 0, 0, UNKNOWN);
        t.made(EIGHT).leaves("station(7, 7)", 219).refusesOutside("station(#, 7)", 0, 7, UNKNOWN);
    }
}
