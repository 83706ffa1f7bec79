import java.util.Random;

/** Random runs of calls, each answer against the naive model's. The seeds are fixed, so the runs are, too. */
public final class WalksTest {
    private static final int[] STRANGE = {
        -1, -2, -9, -10, 8, 9, 10, 11, 14, 15, 255, 256, Integer.MAX_VALUE, Integer.MIN_VALUE};
    // Fields whose runs have just 40 rounds, or no end, without old offsets then and with some.
    private static final String[] NOTED = {
        "S2cS2-S1aS1bS2bS2bS1-L02L04L06L12L13L14L15L16L24L25L34L36L46L56",
        "S1aS1bS1bS1bS1bS1bL02L12L23L24L25",
        "S1aS1-S1aS3-S1-S2cS3-S1aL01L03L04L05L13L14L27L34L45L47L56L67"};

    private final Random random;
    private final PeriodSlots slots = new PeriodSlots();
    private final Naive naive = new Naive();
    private final StringBuilder story = new StringBuilder();
    private int stations = 0;
    private int calls = 0;

    private WalksTest(long seed) {
        random = new Random(seed);
        story.append("walk ").append(seed);
    }

    public static void main(String[] arguments) {
        int walks = arguments.length > 0 ? Integer.parseInt(arguments[0]) : 400;
        long first = arguments.length > 1 ? Long.parseLong(arguments[1]) : 0;
        for (long seed = first; seed < first + walks; seed++) {
            new WalksTest(seed).walk();
        }
        Due.end("WalksTest");
    }

    private void due(String call, long got, long want) {
        calls++;
        story.append("; ").append(call);
        String told = got == want ? call : story.toString();
        Due.is(told, got, want);
    }

    private void walk() {
        int fields = 1 + random.nextInt(3);
        for (int k = 0; k < fields; k++) {
            typeText();
            int length = 40 + random.nextInt(80);
            for (int c = 0; c < length && calls < 512; c++) {
                call(random.nextInt(40));
            }
        }
    }

    private int num(int bound) {
        return random.nextInt(25) == 0 ? STRANGE[random.nextInt(STRANGE.length)] : random.nextInt(bound);
    }

    private int someStation() {
        return num(Math.max(1, stations));
    }

    private void type(int letter) {
        due("write(" + letter + ")", slots.write(letter), naive.write(letter));
    }

    private void typeText() {
        if (random.nextInt(8) != 0) {
            due("wipe()", slots.wipe(), naive.wipe());
        }
        String text = someText();
        for (int k = 0; k < text.length() && calls < 380; k++) {
            type(text.charAt(k));
        }
        due("fault()", slots.fault(), naive.fault());
        int made = naive.field();
        due("field()", slots.field(), made);
        stations = made >= 0 ? made : stations;
    }

    private String someText() {
        if (random.nextInt(20) == 0) {
            return NOTED[random.nextInt(NOTED.length)];
        }
        StringBuilder text = new StringBuilder();
        boolean[][] linked = new boolean[8][8];
        int n = random.nextInt(12) == 0 ? random.nextInt(2) : 2 + random.nextInt(7);
        double density = random.nextDouble();
        int widest = 1 + random.nextInt(3);
        int told = 0;
        while (told < n) {
            int size = 1 + random.nextInt(widest);
            text.append('S').append(size);
            text.append(random.nextInt(4) == 0 ? '-' : (char) ('a' + random.nextInt(1 << size)));
            told++;
            for (int i = 0; i < told; i++) {
                for (int j = 0; j < told; j++) {
                    boolean now = i != j && !linked[i][j] && random.nextDouble() < density / (2 + n - told);
                    if (now) {
                        linked[i][j] = true;
                        linked[j][i] = true;
                        text.append('L').append(i).append(j);
                    }
                }
            }
        }
        return random.nextInt(6) == 0 ? spoilt(text) : text.toString();
    }

    private String spoilt(StringBuilder text) {
        String bytes = "SSSLLL01234567-abcdefgh89X`i \u00ff\u0000";
        for (int k = random.nextInt(3); k >= 0 && text.length() > 0; k--) {
            int at = random.nextInt(text.length());
            char letter = bytes.charAt(random.nextInt(bytes.length()));
            switch (random.nextInt(3)) {
                case 0: text.setCharAt(at, letter); break;
                case 1: text.insert(at, letter); break;
                default: text.deleteCharAt(at);
            }
        }
        return text.toString();
    }

    private void call(int kind) {
        if (kind < 10) {
            ask(kind);
        } else if (kind < 26) {
            act(kind - 10);
        } else if (kind < 36) {
            query(kind - 26);
        } else {
            lookAtAll();
        }
    }

    private void lookAtAll() {
        for (int what = 0; what < 11; what++) {
            due("about(" + what + ")", slots.about(what), naive.about(what));
        }
        int v = someStation();
        for (int what = 0; what < 10; what++) {
            due("station(" + v + ", " + what + ")", slots.station(v, what), naive.station(v, what));
        }
    }

    private void ask(int kind) {
        int v = someStation();
        int what;
        switch (kind) {
            case 0: what = num(11); due("about(" + what + ")", slots.about(what), naive.about(what)); break;
            case 1: case 2:
                what = num(10);
                due("station(" + v + ", " + what + ")", slots.station(v, what), naive.station(v, what));
                break;
            case 3: what = num(4); due("ahead(" + what + ")", slots.ahead(what), naive.ahead(what)); break;
            case 4:
                what = random.nextBoolean() ? -1 : v;
                due("plan(" + what + ")", slots.plan(what), naive.plan(what));
                break;
            case 5: what = num(8); due("shifted(" + v + ", " + what + ")", slots.shifted(v, what), naive.shifted(v, what)); break;
            case 6: case 7: what = num(4); due("awake(" + v + ", " + what + ")", slots.awake(v, what), naive.awake(v, what)); break;
            default:
                what = num(8);
                int w = someStation();
                due("arrives(" + v + ", " + w + ", " + what + ")", slots.arrives(v, w, what), naive.arrives(v, w, what));
        }
    }

    private void act(int kind) {
        int v = someStation();
        int w = someStation();
        int d = num(8);
        switch (kind) {
            case 0: case 1: case 2: due("round()", slots.round(), naive.round()); break;
            case 3: case 4: due("turn(" + v + ", " + w + ")", slots.turn(v, w), naive.turn(v, w)); break;
            case 5: case 6:
                d = random.nextInt(4) == 0 ? -9 : d / (1 + random.nextInt(4));
                due("lay(" + v + ", " + d + ")", slots.lay(v, d), naive.lay(v, d)); break;
            case 7: due("shift(" + v + ", " + d + ")", slots.shift(v, d), naive.shift(v, d)); break;
            case 8: case 9: due("join(" + v + ", " + w + ")", slots.join(v, w), naive.join(v, w)); break;
            case 10: due("run()", slots.run(), naive.run()); break;
            case 11: case 12: case 13: due("undo()", slots.undo(), naive.undo()); break;
            case 14: d = num(2); due("keep(" + d + ")", slots.keep(d), naive.keep(d)); break;
            default: d = num(2); due("again(" + d + ")", slots.again(d), naive.again(d));
        }
    }

    private void query(int kind) {
        int v = someStation();
        boolean upper = random.nextBoolean();
        int x = num(11);
        switch (kind) {
            case 0: case 1: case 2: judge(); break;
            case 3: case 4:
                int tick = num(8);
                int was = num(3);
                due("see(" + v + ", " + tick + ", " + was + ")", slots.see(v, tick, was), naive.see(v, tick, was));
                break;
            case 5: due("which(" + v + ")", slots.which(v), naive.which(v)); break;
            case 6:
                due("share(" + v + ", " + upper + ")", slots.share(v, upper), naive.share(v, upper));
                if (random.nextInt(4) == 0) {
                    due("unsee()", slots.unsee(), naive.unsee());
                }
                break;
            case 7: due("off(" + x + ", " + upper + ")", slots.off(x, upper), naive.off(x, upper)); break;
            case 8:
                long state = random.nextBoolean() ? random.nextLong() : random.nextInt(10);
                due("seed(" + state + ")", slots.seed(state), naive.seed(state));
                break;
            default: due("drawn(" + x + ")", slots.drawn(x), naive.drawn(x));
        }
    }

    private void judge() {
        int n = num(4) + (random.nextInt(10) == 0 ? 0 : 1);
        long row = 0;
        for (int k = 0; k < n && k < 4; k++) {
            row = row * 10000 + statement();
        }
        if (random.nextInt(20) == 0) {
            row = random.nextBoolean() ? random.nextLong() : row * 10 - 1;
        }
        due("judge(" + n + ", " + row + ")", slots.judge(n, row), naive.judge(n, row));
    }

    private int statement() {
        int v = random.nextInt(Math.max(1, stations));
        int w = random.nextInt(Math.max(1, stations));
        int[] likely = {
            1000 + 100 * v + 10 * w, 2000 + 100 * v + 10 * random.nextInt(10), 3000 + 100 * v + 10 * random.nextInt(9),
            4000 + Math.max(0, naive.about(2)), 5000, 6000 + 100 * v + random.nextInt(2),
            6000 + 100 * v + (naive.about(4) >> v & 1), 7000 + Math.max(0, naive.ahead(0))};
        int statement = likely[random.nextInt(likely.length)];
        return random.nextInt(12) == 0 ? random.nextInt(10000) : statement;
    }
}
