/** The document's examples 1 to 3, call by call. */
public final class ExamplesTest {
    private ExamplesTest() { }

    public static void main(String[] arguments) {
        twoStationsNegotiate();
        wrongOffsetAndJoin();
        noStations();
        Due.end("ExamplesTest");
    }

    private static void writes(String example, PeriodSlots x, int... letters) {
        for (int k = 0; k < letters.length; k++) {
            Due.is(example + ": write(" + letters[k] + ")", x.write(letters[k]), k + 1);
        }
    }

    private static void twoStationsNegotiate() {
        PeriodSlots x = new PeriodSlots();
        writes("example 1", x, 83, 49, 97, 83, 50, 97, 76, 48, 49);
        Due.is("example 1: field()", x.field(), 2);
        Due.is("example 1: about(2)", x.about(2), 1);
        Due.is("example 1: round()", x.round(), 1);
        Due.is("example 1: station(1, 1)", x.station(1, 1), 0);
        Due.is("example 1: round()", x.round(), 1);
        Due.is("example 1: about(6)", x.about(6), 0);
        Due.is("example 1: awake(0, 0)", x.awake(0, 0), 170);
    }

    private static void wrongOffsetAndJoin() {
        PeriodSlots x = new PeriodSlots();
        writes("example 2", x, 83, 49, 101, 76, 48);
        Due.is("example 2: fault()", x.fault(), 2);
        Due.is("example 2: wipe()", x.wipe(), 5);
        writes("example 2", x, 83, 49, 45, 83, 49, 45);
        Due.is("example 2: field()", x.field(), 2);
        Due.is("example 2: join(0, 1)", x.join(0, 1), 0);
        Due.is("example 2: plan(1)", x.plan(1), 1);
    }

    private static void noStations() {
        PeriodSlots x = new PeriodSlots();
        Due.is("example 3: about(6)", x.about(6), 1);
        Due.is("example 3: plan(-1)", x.plan(-1), 1);
        Due.is("example 3: run()", x.run(), 0);
        Due.is("example 3: undo()", x.undo(), 0);
        Due.is("example 3: undo()", x.undo(), -3);
        Due.is("example 3: share(0, true)", x.share(0, true), -1);
        Due.is("example 3: off(5, true)", x.off(5, true), 1);
        Due.is("example 3: judge(1, 5000)", x.judge(1, 5000L), -9);
        Due.is("example 3: judge(2, 50004001)", x.judge(2, 50004001L), 1);
        Due.is("example 3: see(0, 0, 0)", x.see(0, 0, 0), -1);
        Due.is("example 3: drawn(3)", x.drawn(3), 0);
        Due.is("example 3: field()", x.field(), 0);
        Due.is("example 3: keep(2)", x.keep(2), -1);
        Due.is("example 3: keep(0)", x.keep(0), 0);
        Due.is("example 3: again(0)", x.again(0), 0);
        Due.is("example 3: fault()", x.fault(), -9);
    }
}
