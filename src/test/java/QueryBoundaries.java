/** Promises 15 to 23: a test for each sentence that names a boundary case of queries and observations. */
final class QueryBoundaries {
    private static final int UNKNOWN = Trial.UNKNOWN, BAD = Trial.BAD, FULL = Trial.FULL, NONE = Trial.NONE;
    // Three stations of period 2, each near to each: only two of them can have an offset.
    private static final String CROWD = "S1aS1aS1aL01L12";
    private static final String EIGHT = "S1aS1aS1aS1aS1aS1aS1aS1a";

    private QueryBoundaries() { }

    static void run() {
        aheadOnlyPredicts();
        aheadCounts();
        ahead();
        planFinds();
        plan();
        shifted();
        hears();
        isAwake();
        awake();
        messages();
        arrives();
        statementsOfActs();
        statementsOfNumbers();
        statementsTogether();
        judge();
        observations();
        see();
        unsee();
        which();
    }

    // ---- Promise 15

    private static void aheadOnlyPredicts() {
        Trial t = Trial.of(15, "Predicts a run from the present state, without carrying it out.");
        t.rich().leaves("ahead(0)", 2).leaves("ahead(1)", 15).leaves("ahead(2)", 0).leaves("ahead(3)", 1);
        t.made(ActBoundaries.RESTLESS).leaves("ahead(0)", NONE).is("about(3)", 0);
        t.made("S1aS2aL01").is("ahead(0)", 3).is("round()", 1).is("ahead(0)", 2).is("shift(0, 0)", 0).is("ahead(0)", 0);
    }

    private static void aheadCounts() {
        Trial t = Trial.of(15, "0 for how many rounds it has, 1 for the set of stations that have an offset in the end");
        t.are("ahead(#)", 0, 0);
        t.made("S1-S1-S1-S1-S1-S1-S1-S1-").are("ahead(#)", 1, 255);
        t.made("S1aS1bS1-L02L12").are("ahead(#)", 0, 3);
        t.made(CROWD).are("ahead(#)", 2, 6);
        t.made(ActBoundaries.QUIET_AFTER_39).is("ahead(0)", 39).made(ActBoundaries.QUIET_AFTER_40).is("ahead(0)", 40);

        t = Trial.of(15, "2 for the set of stations whose offset is another one in the end than now (also from none or to"
            + " none)");
        t.is("ahead(2)", 0).made("S1aS1bL01").is("ahead(2)", 0);
        t.made("S1-S1bL01").is("ahead(2)", 1);
        t.made("S1aS1aS1bL01L02").is("ahead(2)", 1).is("round()", 1).is("station(0, 1)", NONE).is("ahead(2)", 0);
        t.made("S3aS3aL01").is("ahead(2)", 3);
        // Station 0 moves away and comes back: in the end it is where it was.
        t.made("S1aS2aL01").is("ahead(2)", 1);

        t = Trial.of(15, "3 for the number of its rounds in which at least one station gets an offset that is another one"
            + " than before (also from none)");
        t.is("ahead(3)", 0).made("S1aS1bL01").is("ahead(3)", 0);
        t.made("S1-").is("ahead(3)", 1).made("S1-S1-").is("ahead(3)", 1).made("S1-S1-L01").is("ahead(3)", 2);
        // A station that is left without an offset gets none.
        t.made("S1aS1aS1bL01L02").is("ahead(0)", 1).is("ahead(3)", 0);
        t.made("S1aS2aL01").is("ahead(0)", 3).is("ahead(3)", 2);
        t.made(ActBoundaries.QUIET_AFTER_40).is("ahead(0)", 40).is("ahead(3)", 1);
    }

    private static void ahead() {
        Trial t = Trial.of(15, "Returns the value; NONE if the field is not quiet after 40 rounds; or BAD.");
        t.leaves("ahead(0)", 0).leaves("ahead(3)", 0).refusesOutside("ahead(#)", 0, 3, BAD);
        t.rich().refusesOutside("ahead(#)", 0, 3, BAD);
        t.made(ActBoundaries.QUIET_AFTER_40).are("ahead(#)", 40, 47, 24, 1);
        t.made(ActBoundaries.QUIET_AFTER_41).are("ahead(#)", NONE, NONE, NONE, NONE);
        t.made(ActBoundaries.OLD_AFTER_40).are("ahead(#)", NONE, NONE, NONE, NONE);
        t.made(ActBoundaries.RESTLESS).are("ahead(#)", NONE, NONE, NONE, NONE).refusesOutside("ahead(#)", 0, 3, BAD);
    }

    // ---- Promises 16 and 17

    private static void planFinds() {
        Trial t = Trial.of(16, "Finds an assignment of offsets to all stations, with the present links, without conflicts:"
            + " the lexicographically smallest one by the offsets of stations 0, 1 and so on.");
        t.made("S3h").is("plan(0)", 0);
        t.made("S1bS1aL01").are("plan(#)", 0, 1).is("turn(0, 1)", 0).are("plan(#)", 0, 0);
        // Station 0 takes the lowest offset, though station 1 would be lower otherwise.
        t.made("S3-S1-S3-S3-L01L12L13").are("plan(#)", 0, 1, 2, 4);
        t.made("S3-S3-S1-S3-S3-L02L12L32L42").are("plan(#)", 0, 2, 1, 4, 6);
        t.made("S3-S3-S3-S3-S3-S3-S3-S3-L01L02L03L04L05L06L07").are("plan(#)", 0, 1, 2, 3, 4, 5, 6, 7);
        t.made("S2-S2-S2-S2-L01L12L23").are("plan(#)", 0, 1, 2, 0);
        t.made("S1-S1-S1-L02").are("plan(#)", 0, 0, 1).made("S1-S1-S1-S1-L03").are("plan(#)", 0, 0, 0, 1);
        // With station 1 at 1, 2 or 3 nothing is left to the stations after it.
        t.made("S3-S3-S2-S1-L02L12L23").are("plan(#)", 0, 4, 2, 1);
        t.made("S2-S2-S2-S1-L01L12L23").are("plan(#)", 0, 1, 3, 0);
        t.rich().leaves("plan(0)", 0).leaves("plan(1)", 1).leaves("plan(2)", 3).leaves("plan(3)", 0);
    }

    private static void plan() {
        Trial t = Trial.of(16, "Returns for -1 1 if there is such an assignment (also without stations), else 0; otherwise"
            + " the offset of the station in it, or NONE if there is none; or UNKNOWN.");
        t.leaves("plan(-1)", 1).refuses("plan(0)", UNKNOWN).refuses("plan(-2)", UNKNOWN);
        t.made("S1-").leaves("plan(-1)", 1).leaves("plan(0)", 0).refuses("plan(1)", UNKNOWN);
        // Two of period 2 fill the cycle, and so do four of period 4 and eight of period 8: one more is too many.
        t.made("S1-S1-S1-L01").leaves("plan(-1)", 1).is("plan(2)", 0).is("turn(1, 2)", 1);
        t.leaves("plan(-1)", 0).leaves("plan(0)", NONE).leaves("plan(2)", NONE).refuses("plan(3)", UNKNOWN);
        t.made("S2-S2-S2-S2-S1-L01L02L03").leaves("plan(-1)", 1).is("plan(3)", 3).is("plan(4)", 0);
        t.is("turn(0, 4)", 1).leaves("plan(-1)", 0).leaves("plan(4)", NONE);
        t.made("S3-S3-S3-S3-S1-L04L14L24L34").is("plan(-1)", 1).is("plan(3)", 6).is("plan(4)", 1);
        t.made("S3-S3-S3-S3-S3-S1-L05L15L25L35L45").is("plan(-1)", 0).is("plan(5)", NONE);
        t.rich().leaves("plan(-1)", 1).refuses("plan(4)", UNKNOWN);
        // The net of station 2 alone has none, and then the field has none.
        t.made("S1-S1-S1-S1-S1-L23L34").is("plan(-1)", 0).are("plan(#)", NONE, NONE, NONE, NONE, NONE);

        t = Trial.of(16, "`station`: -1, or a station");
        t.refusesOutside("plan(#)", -1, -1, UNKNOWN);
        t.made(CROWD).leaves("plan(-1)", 0).leaves("plan(2)", NONE).refusesOutside("plan(#)", -1, 2, UNKNOWN);
        t.made(EIGHT).leaves("plan(-1)", 1).leaves("plan(7)", 0).refusesOutside("plan(#)", -1, 7, UNKNOWN);
    }

    private static void shifted() {
        Trial t = Trial.of(17, "Predicts the number of conflicts if the net of a station were shifted.");
        t.rich().leaves("shifted(0, 0)", 0).leaves("shifted(3, 7)", 0).is("station(0, 2)", 0);
        t.made("S1aS1aL01").leaves("shifted(0, 1)", 1).made("S1aS1a").leaves("shifted(0, 1)", 0);
        t.made(FieldBoundaries.longest()).is("shifted(7, 7)", 28);

        t = Trial.of(17, "`d`: 0 to 7");
        t.made("S3aS3aL01").are("shifted(0, #)", 1, 1, 1, 1, 1, 1, 1, 1).refusesOutside("shifted(0, #)", 0, 7, BAD);
        t.rich().refusesOutside("shifted(3, #)", 0, 7, BAD);

        t = Trial.of(17, "Returns the number; or UNKNOWN, BAD.");
        t.refusesOutside("shifted(#, 0)", 0, -1, UNKNOWN);
        t.rich().leaves("shifted(0, 7)", 0).leaves("shifted(3, 0)", 0).refusesOutside("shifted(#, 0)", 0, 3, UNKNOWN);
        t.refuses("shifted(4, 8)", UNKNOWN).refuses("shifted(-1, -1)", UNKNOWN);
    }

    // ---- Promises 18 and 19

    private static void hears() {
        Trial t = Trial.of(18, "A station hears a neighbour at a tick if this tick belongs to that neighbour, to no other"
            + " neighbour, and not to the station itself.");
        t.made("S3aS1a").is("awake(0, 3)", 0).is("turn(0, 1)", 1).is("awake(0, 3)", 84).is("awake(1, 3)", 0);
        t.made("S3-S1aL01").is("awake(0, 3)", 85).is("awake(1, 3)", 0);
        t.made("S3-S1aS3aL01L02").is("awake(0, 3)", 84).is("lay(2, 1)", 0).is("awake(0, 3)", 87);
        t.is("lay(2, -9)", 1).is("awake(0, 3)", 85).is("lay(0, 0)", NONE).is("awake(0, 3)", 84);
        // Who is no neighbour, near or not, disturbs nobody.
        t.made("S3-S1aS1aL01L12").is("awake(0, 3)", 85).made("S3-S1aS1aL01").is("awake(0, 3)", 85);
        t.made("S3-S1aS1aS1aL01L02L03").is("awake(0, 3)", 0);
        // An old offset is no tick.
        t.made("S1aS2aL01").is("round()", 1).is("awake(1, 3)", 170).is("awake(0, 3)", 17);
    }

    private static void isAwake() {
        Trial t = Trial.of(18, "A station is awake at its own ticks and at those of its neighbours.");
        t.made("S1-S1-L01").is("awake(0, 0)", 0).made("S3hS3a").is("awake(0, 0)", 128).is("turn(0, 1)", 1);
        t.is("awake(0, 0)", 129).made("S3aS3bS3cL01L12").are("awake(#, 0)", 3, 7, 6);
        t.made("S1aS1bL01").is("awake(0, 0)", 255).is("round()", 0).is("awake(1, 0)", 255);
        t.made("S1aS1bS1aL02").is("awake(0, 0)", 85);

        t = Trial.of(18, "1 their number, 2 the number of ticks at which it is awake and was not at the tick before"
            + " (before tick 0 comes tick 7)");
        t.made("S3-").is("awake(0, 1)", 0).is("awake(0, 2)", 0);
        t.made("S3a").is("awake(0, 1)", 1).is("awake(0, 2)", 1).made("S3h").is("awake(0, 2)", 1);
        t.made("S3aS3hL01").is("awake(0, 1)", 2).is("awake(0, 2)", 1).is("awake(1, 2)", 1);
        t.made("S3aS3gL01").is("awake(0, 1)", 2).is("awake(0, 2)", 2);
        t.made("S3bS3hL01").is("awake(0, 1)", 2).is("awake(0, 2)", 2);
        t.made("S3aS3bL01").is("awake(0, 1)", 2).is("awake(0, 2)", 1);
        t.made("S1a").is("awake(0, 1)", 4).is("awake(0, 2)", 4);
        t.made("S1aS1bL01").is("awake(0, 1)", 8).is("awake(0, 2)", 0);
    }

    private static void awake() {
        Trial t = Trial.of(18, "Returns the value; or UNKNOWN, BAD.");
        t.refusesOutside("awake(#, 0)", 0, -1, UNKNOWN);
        t.rich().leaves("awake(0, 0)", 187).leaves("awake(3, 3)", 0).refusesOutside("awake(#, 0)", 0, 3, UNKNOWN);
        t.refusesOutside("awake(#, 3)", 0, 3, UNKNOWN).refusesOutside("awake(0, #)", 0, 3, BAD);
        t.refusesOutside("awake(3, #)", 0, 3, BAD).refuses("awake(4, 4)", UNKNOWN).refuses("awake(-1, -1)", UNKNOWN);
    }

    private static void messages() {
        Trial t = Trial.of(19, "At each tick, from t on (after tick 7 comes tick 0 again), each station that hears a"
            + " neighbour that had it before this tick has it, too.");
        t.made("S3aS3hS3-L01L12");
        t.is("arrives(0, 1, 0)", 1).is("arrives(0, 1, 1)", 8).is("arrives(0, 1, 7)", 2);
        t.is("arrives(0, 2, 0)", 8).is("arrives(0, 2, 1)", 15).is("arrives(0, 2, 7)", 9);
        t.is("arrives(1, 0, 7)", 1).is("arrives(1, 2, 0)", 8);
        // Nobody hears while it sends itself.
        t.made("S1aS2aS3-L01L12").is("arrives(0, 1, 0)", 3).is("arrives(0, 2, 0)", 5).is("arrives(1, 0, 0)", NONE);
        // Station 1 hears it twice and four times before it sends, and still has it then.
        t.made("S1aS3dS3-L01L12").is("arrives(0, 2, 0)", 4).is("lay(1, 7)", 3).is("arrives(0, 2, 0)", 8);
        // What another sends at the same tick destroys it.
        t.made("S3aS3-S3aL01L12").is("arrives(0, 1, 0)", NONE).is("turn(1, 2)", 0).is("arrives(0, 1, 0)", 1);

        t = Trial.of(19, "Before tick t, only the first station has it.");
        t.made("S3aS3bS3cS3dL01L12L23").is("arrives(0, 3, 0)", 3).is("arrives(0, 3, 1)", 10).is("arrives(1, 3, 1)", 2);
        t.is("arrives(1, 3, 2)", 9).is("arrives(0, 3, 0)", 3);
    }

    private static void arrives() {
        Trial t = Trial.of(19, "`t`: the first tick, 0 to 7");
        t.made("S3hS3-L01").are("arrives(0, 1, #)", 8, 7, 6, 5, 4, 3, 2, 1).refusesOutside("arrives(0, 1, #)", 0, 7, BAD);
        t.refusesOutside("arrives(0, 0, #)", 0, 7, BAD).refusesOutside("arrives(1, 0, #)", 0, 7, BAD);
        t.rich().refusesOutside("arrives(0, 3, #)", 0, 7, BAD);

        t = Trial.of(19, "Returns after how many ticks the second station has it, 0 if it is the first one; NONE if it does"
            + " not have it after 64 ticks; or UNKNOWN, BAD.");
        t.refusesOutside("arrives(#, 0, 0)", 0, -1, UNKNOWN);
        t.made("S3aS3-").is("arrives(0, 0, 0)", 0).is("arrives(1, 1, 7)", 0).is("arrives(0, 1, 0)", NONE);
        t.is("turn(0, 1)", 1).is("arrives(0, 1, 0)", 1).is("arrives(1, 0, 0)", NONE).is("arrives(0, 0, 1)", 0);
        // The longest ways that there are: seven links, each of which waits for most of a cycle.
        t.made("S3hS3gS3fS3eS3dS3cS3bS3aL01L12L23L34L45L56L67").is("arrives(0, 7, 0)", 50).is("arrives(0, 7, 7)", 43);
        t.rich().leaves("arrives(0, 0, 7)", 0).leaves("arrives(0, 1, 0)", 2).leaves("arrives(0, 3, 0)", NONE);
        t.refusesOutside("arrives(#, 0, 0)", 0, 3, UNKNOWN).refusesOutside("arrives(3, #, 0)", 0, 3, UNKNOWN);
        t.refuses("arrives(4, 4, 0)", UNKNOWN).refuses("arrives(0, 4, 8)", UNKNOWN).refuses("arrives(-1, 0, -1)", UNKNOWN);
    }

    // ---- Promise 20

    /** Each of these statements is true by itself. */
    private static void areTrue(Trial t, int... statements) {
        for (int statement : statements) {
            t.is("judge(1, " + statement + ")", NONE);
        }
    }

    private static void areFalse(Trial t, int... statements) {
        for (int statement : statements) {
            t.is("judge(1, " + statement + ")", 0);
        }
    }

    private static void statementsOfActs() {
        Trial t = Trial.of(20, "1 i j 0: turn() of the stations i and j returns no error.").made("S1aS2aS3aL01");
        areTrue(t, 1010, 1020, 1210, 1200);
        areFalse(t, 1000, 1220, 1030, 1300, 1330, 1090, 1900, 1011, 1019);
        areTrue(t.made(EIGHT), 1070, 1700, 1760);
        areFalse(t, 1080, 1800, 1770);

        t = Trial.of(20, "2 s x 0: lay() of station s with offset x (9 means none) returns no error.").made("S1aS2aS3a");
        areTrue(t, 2000, 2010, 2090, 2100, 2130, 2190, 2200, 2270, 2290);
        areFalse(t, 2020, 2080, 2140, 2180, 2280, 2300, 2390, 2900, 2001, 2099, 2209);

        t = Trial.of(20, "3 s x 0: shift() of station s by x, 0 to 7, returns no error.").made("S1aS2aS3-");
        areTrue(t, 3000, 3070, 3200, 3270);
        areFalse(t, 3080, 3090, 3300, 3370, 3900, 3001, 3079, 3280);

        t = Trial.of(20, "5 0 0 0: a round (always true).").made(ActBoundaries.RESTLESS);
        areTrue(t, 5000);
        areFalse(t, 5001, 5010, 5100, 5999);
        t.fresh().leaves("judge(1, 5000)", NONE).leaves("judge(4, 5000500050005000)", NONE);
    }

    private static void statementsOfNumbers() {
        Trial t = Trial.of(20, "4 0 x y: there are 10 * x + y conflicts.");
        areTrue(t, 4000);
        areFalse(t, 4001, 4010, 4100, 4900);
        areTrue(t.made(FieldBoundaries.longest()), 4028);
        areFalse(t, 4027, 4029, 4018, 4038, 4128, 4008, 4020);

        t = Trial.of(20, "6 s 0 x: station s exists, and is unsettled (x = 1) or is not (x = 0).");
        areFalse(t, 6000, 6001);
        areTrue(t.made("S1aS1aS1-L01"), 6001, 6100, 6201);
        areFalse(t, 6000, 6101, 6200, 6300, 6301, 6900, 6901, 6002, 6009, 6011, 6110, 6102);
        areTrue(t.made(EIGHT), 6700);
        areFalse(t, 6701, 6800, 6801);

        t = Trial.of(20, "7 0 x y: a run would have 10 * x + y rounds, after which the field is quiet.");
        areTrue(t, 7000);
        areFalse(t, 7001, 7100, 7010);
        areTrue(t.made("S1-"), 7001);
        areFalse(t, 7000, 7002, 7011, 7101);
        areTrue(t.made(ActBoundaries.QUIET_AFTER_39), 7039);
        areFalse(t, 7038, 7040);
        areTrue(t.made(ActBoundaries.QUIET_AFTER_40), 7040);
        areFalse(t, 7039, 7041, 7140);
        areFalse(t.made(ActBoundaries.QUIET_AFTER_41), 7040, 7041, 7009);
        areFalse(t.made(ActBoundaries.OLD_AFTER_40), 7040, 7041);
        areFalse(t.made(ActBoundaries.RESTLESS), 7040, 7000, 7009, 7099);
    }

    private static void statementsTogether() {
        Trial t = Trial.of(20, "The acts of 1, 2, 3 and 5 take effect for the statements after them; in the end nothing is"
            + " changed.");
        t.made("S1aS2aS3cL01").is("judge(2, 10104000)", NONE).is("judge(2, 10104001)", 1);
        t.is("judge(3, 101010104001)", NONE).is("judge(2, 20104000)", NONE).is("judge(2, 20904000)", NONE);
        t.is("judge(3, 209040006001)", NONE).is("judge(2, 50004000)", NONE).is("judge(3, 500040006101)", NONE);
        // Only the net of station 0 is shifted, and then it is linked to station 2.
        t.is("judge(4, 3020102040033000)", NONE).is("judge(3, 102040023000)", NONE).is("judge(3, 301010204001)", NONE);
        // A statement of 7 is no act, and a false statement has no effect, as none comes after it.
        t.is("judge(3, 700370034001)", NONE).is("judge(2, 70034001)", NONE);
        t.rich();
        for (String row : new String[] {"1, 1010", "1, 1030", "1, 2000", "1, 2090", "1, 3070", "1, 3370", "1, 5000",
            "2, 50005000", "2, 10105000", "4, 1030201050003050"}) {
            t.leaves("judge(" + row + ")", NONE);
        }
        t.leaves("judge(4, 5000233030104999)", 3).leaves("judge(4, 5000233050000000)", 3);
        t.leaves("judge(4, 5000)", 0).leaves("judge(1, 7002)", NONE);

        t = Trial.of(20, "All other digits make a statement false.").made("S1aS2aS3aL01");
        areFalse(t, 0, 1, 10, 9, 101, 990, 8000, 8010, 8100, 9000, 9010, 9999, 1001, 2002, 3003, 4200, 5005, 6050, 7200);
        t.fresh();
        areFalse(t, 0, 1000, 1010, 2000, 2090, 3000, 8000, 9000, 9999);
    }

    private static void judge() {
        Trial t = Trial.of(20, "`n`: the number of statements, 1 to 4");
        t.leaves("judge(1, 5000)", NONE).leaves("judge(4, 5000500050005000)", NONE);
        t.refusesOutside("judge(#, 5000)", 1, 4, BAD).refusesOutside("judge(#, 0)", 1, 4, BAD);
        t.rich().refusesOutside("judge(#, 5000)", 1, 4, BAD).refuses("judge(5, 5000500050005000)", BAD);

        t = Trial.of(20, "`row`: the digits of all statements as one decimal number, the first statement first (leading"
            + " zeros count)");
        t.is("judge(1, 5000)", NONE).is("judge(2, 5000)", 0).is("judge(3, 500050005000)", NONE).is("judge(3, 50005000)", 0);
        t.is("judge(4, 500050005000)", 0).is("judge(1, 0)", 0).is("judge(4, 0)", 0).is("judge(2, 50000000)", 1);
        t.is("judge(2, 40005000)", NONE).is("judge(2, 50004000)", NONE).is("judge(2, 40015000)", 0);

        t = Trial.of(20, "Returns the index, from 0 on, of the first statement that is not true, NONE if all are true; or"
            + " BAD (also if row is negative or has more than 4 * n digits).");
        t.is("judge(4, 5000500050005000)", NONE).is("judge(4, 5000500050009999)", 3).is("judge(4, 5000999999999999)", 1);
        t.is("judge(4, 5000500099999999)", 2).is("judge(4, 9999999999999999)", 0).is("judge(4, 9999500050005000)", 0);
        String[] most = {"9999", "99999999", "999999999999", "9999999999999999"};
        String[] over = {"10000", "100000000", "1000000000000", "10000000000000000"};
        for (int n = 1; n <= 4; n++) {
            t.leaves("judge(" + n + ", " + most[n - 1] + ")", 0).refuses("judge(" + n + ", " + over[n - 1] + ")", BAD);
            t.refuses("judge(" + n + ", -1)", BAD).refuses("judge(" + n + ", -5000)", BAD);
            t.refuses("judge(" + n + ", " + Long.MIN_VALUE + ")", BAD);
            t.refuses("judge(" + n + ", " + Long.MAX_VALUE + ")", BAD);
        }
        // Cut to four digits, or to an int, these would be rounds.
        t.rich().refuses("judge(1, 15000)", BAD).refuses("judge(1, 4294972296)", BAD).refuses("judge(1, 50005000)", BAD);
        t.refuses("judge(3, 1500050005000)", BAD).refuses("judge(4, 15000500050005000)", BAD);
    }

    // ---- Promises 21 to 23

    private static void observations() {
        Trial t = Trial.of(21, "There are at most 6").made("S1aS2aS3a");
        t.are("see(2, #, 1)", 1, 2, 3, 4, 5, 6).is("about(9)", 6).refuses("see(0, 0, 0)", FULL);
        t.refuses("see(2, 0, 1)", FULL).is("about(9)", 6).is("unsee()", 6).is("see(0, 0, 0)", 1);
        // Each of the six counts, and a seventh would leave offset 7 only.
        t.made("S3aS3hL01").is("see(0, 1, 0)", 1).is("which(1)", 253).is("see(0, 2, 0)", 2).is("which(1)", 249);
        t.is("see(0, 3, 0)", 3).is("see(0, 4, 0)", 4).is("see(0, 5, 0)", 5).is("which(1)", 193).is("see(0, 6, 0)", 6);
        t.is("which(1)", 129).refuses("see(0, 7, 1)", FULL).is("which(1)", 129);

        t = Trial.of(23, "an observation says of a station and a tick that none, exactly one, or more of its neighbours"
            + " have this tick (whether the station itself has it does not matter)");
        // Station 0 is at the even ticks; of its neighbours 2 and 3 both are at tick 3, then none is, one is, both are.
        t.made("S1aS3-S3dS3dL01L02L03");
        t.is("see(0, 3, 0)", 1).is("which(1)", 0).is("unsee()", 1).is("lay(2, -9)", 3).is("lay(3, -9)", 3);
        t.is("see(0, 3, 0)", 1).is("which(1)", 247).is("unsee()", 1).is("see(0, 3, 1)", 1).is("which(1)", 8);
        t.is("unsee()", 1).is("see(0, 3, 2)", 1).is("which(1)", 0).is("lay(2, 3)", NONE).is("which(1)", 8);
        t.is("unsee()", 1).is("see(0, 3, 1)", 1).is("which(1)", 247).is("lay(3, 3)", NONE).is("which(1)", 0);
        t.is("unsee()", 1).is("see(0, 3, 2)", 1).is("which(1)", 255).is("lay(2, -9)", 3).is("which(1)", 8);
        // At tick 4, which is its own, station 0 is told of in the same way.
        t.is("unsee()", 1).is("see(0, 4, 0)", 1).is("which(1)", 239).is("which(0)", 3).is("unsee()", 1);
        t.is("see(0, 4, 1)", 1).is("which(1)", 16).is("which(0)", 0).is("unsee()", 1).is("see(1, 0, 1)", 1);
        t.is("which(1)", 255).is("which(0)", 1);
    }

    private static void see() {
        Trial t = Trial.of(21, "`tick`: the tick, 0 to 7").made("S3aS3hL01");
        t.refusesOutside("see(0, #, 0)", 0, 7, BAD).is("see(0, 7, 1)", 1).is("which(1)", 128).is("see(1, 0, 1)", 2);
        t.is("which(0)", 1).refusesOutside("see(1, #, 1)", 0, 7, BAD).refuses("see(0, 15, 1)", BAD);

        t = Trial.of(21, "`was`: how many of its neighbours have this tick: 0, 1, or 2 for two or more").made("S3aS3hL01");
        t.refusesOutside("see(0, 0, #)", 0, 2, BAD).are("see(0, 0, #)", 1, 2, 3).refusesOutside("see(0, 0, #)", 0, 2, BAD);
        t.made("S3aS3aS3aS3aL03L13L23").is("see(3, 0, 2)", 1).is("which(0)", 255).is("lay(0, 1)", 0).is("which(1)", 1);
        t.is("lay(0, 0)", 1).is("see(3, 0, 1)", 2).are("which(#)", 0, 0, 0, 0);

        t = Trial.of(21, "Returns how many observations there are; or UNKNOWN, BAD, FULL if there were 6 already.");
        t.refusesOutside("see(#, 0, 0)", 0, -1, UNKNOWN).is("about(9)", 0);
        t.rich().refusesOutside("see(#, 0, 0)", 0, 3, UNKNOWN).refuses("see(4, 8, 3)", UNKNOWN);
        t.refuses("see(-1, -1, -1)", UNKNOWN).refuses("see(0, 8, 0)", BAD).refuses("see(3, 0, 3)", BAD);
        t.is("see(3, 0, 0)", 3).is("see(0, 7, 2)", 4).is("see(0, 7, 2)", 5).is("see(2, 0, 1)", 6);
        t.refuses("see(2, 0, 1)", FULL).refuses("see(0, 0, 0)", FULL).refuses("see(4, 0, 0)", UNKNOWN);
        t.refuses("see(0, 8, 0)", BAD).refuses("see(0, 0, 3)", BAD).is("about(9)", 6).is("unsee()", 6);
        t.made("S3aS3-L01").times(6, "see(0, 0, 0)").is("which(1)", 254).refuses("see(0, 7, 1)", FULL);
        t.refuses("see(0, 0, 1)", FULL).is("which(1)", 254);
    }

    private static void unsee() {
        Trial t = Trial.of(22, "Removes all observations.").made("S3aS3hL01");
        t.is("unsee()", 0).is("which(0)", 255).is("see(1, 0, 1)", 1).is("which(0)", 1).is("see(1, 1, 1)", 2);
        t.is("which(0)", 0).does("unsee()").is("about(9)", 0).is("which(0)", 255).is("see(1, 1, 1)", 1).is("which(0)", 2);
        t.times(5, "see(1, 0, 1)").is("about(9)", 6).does("unsee()").is("about(9)", 0).is("which(0)", 255);

        t = Trial.of(22, "Returns how many there were.");
        t.leaves("unsee()", 0).made("S3a").is("see(0, 0, 0)", 1).is("unsee()", 1).is("unsee()", 0);
        t.times(7, "see(0, 0, 0)").is("unsee()", 6).is("unsee()", 0);
        t.rich().is("unsee()", 2).is("about(9)", 0);
    }

    private static void which() {
        Trial t = Trial.of(23, "Returns which offsets of a station, from 0 to its period minus 1, agree with all"
            + " observations, if this station had this offset and everything else were as it is.");
        t.made("S1-S2-S3-S3hL02L12").leaves("which(0)", 3).leaves("which(1)", 15).leaves("which(2)", 255);
        t.is("see(2, 7, 1)", 1).are("which(#)", 2, 8, 0, 0).is("see(2, 3, 1)", 2).are("which(#)", 2, 8, 0, 0);
        t.is("see(2, 1, 0)", 3).are("which(#)", 0, 8, 0, 0).is("unsee()", 3).is("see(0, 0, 1)", 1).is("see(1, 0, 1)", 2);
        t.are("which(#)", 0, 0, 1, 0).is("see(0, 7, 0)", 3).are("which(#)", 0, 0, 1, 0).is("see(0, 7, 1)", 4);
        t.are("which(#)", 0, 0, 0, 0).is("station(2, 1)", NONE);
        t.rich().leaves("which(0)", 0).is("unsee()", 2).leaves("which(3)", 15).leaves("which(2)", 255);

        t = Trial.of(23, "An observation of a station that does not exist any more is true.");
        t.made("S3aS3bS3c").is("see(2, 0, 2)", 1).is("which(0)", 0).does("wipe()").type("S3aS3b").is("field()", 2);
        t.is("which(0)", 255).is("about(9)", 1).is("see(1, 0, 2)", 2).is("which(0)", 0);
        t.type("S3c").is("field()", 3).does("unsee()").is("see(2, 0, 2)", 1).is("which(0)", 0);
        t.does("wipe()").is("field()", 0).refuses("which(0)", UNKNOWN).is("about(9)", 1);
        t.type("S3a").is("field()", 1).is("which(0)", 255).type("S3aS3a").is("field()", 3).is("which(0)", 0);

        t = Trial.of(23, "Returns the set of offsets; or UNKNOWN.");
        t.refusesOutside("which(#)", 0, -1, UNKNOWN);
        t.rich().refusesOutside("which(#)", 0, 3, UNKNOWN).is("unsee()", 2).is("which(0)", 3).is("which(3)", 15);
        t.refusesOutside("which(#)", 0, 3, UNKNOWN);
    }
}
