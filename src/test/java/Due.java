/** Counts the answers that are not the ones that are due, and ends a test with them. */
final class Due {
    private static int checks = 0;
    private static int wrong = 0;

    private Due() { }

    static void is(String what, long got, long want) {
        checks++;
        if (got != want) {
            wrong++;
            if (wrong <= 50) {
                System.out.println(what + " answered " + got + ", due is " + want);
            }
        }
    }

    static void holds(String what, boolean truth) {
        is(what, truth ? 1 : 0, 1);
    }

    static void end(String name) {
        System.out.println(name + ": " + checks + " checks, " + wrong + " wrong");
        if (wrong != 0 || checks == 0) {
            System.exit(1);
        }
    }

    /** Writes a text into the buffer after what it holds, and checks that each byte finds room. */
    static PeriodSlots type(PeriodSlots slots, String text) {
        for (int k = 0; k < text.length(); k++) {
            holds("write of " + text, slots.write(text.charAt(k)) > 0);
        }
        return slots;
    }

    /** Returns a new object with the field that the text describes. */
    static PeriodSlots made(String text) {
        PeriodSlots slots = type(new PeriodSlots(), text);
        holds("field() of " + text, slots.field() >= 0);
        return slots;
    }
}
