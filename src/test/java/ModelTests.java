import java.lang.reflect.Method;
import java.util.Random;

/** Long runs of drawn calls: each is asked of SoleReader and of the Model, and both must answer alike. */
public final class ModelTests {
    private static final int RUNS = Integer.getInteger("runs", 1500);
    private static final int CALLS = 512;
    private static final String[] NAMES = {"pair", "of", "wall", "walls", "asks", "terms", "feed", "end", "row",
        "brads", "law", "orders", "fault", "stopped", "force", "step", "turn", "pause", "mend", "pass", "undo", "ways",
        "ends", "way", "least", "chance", "within", "couples", "likest", "lasts", "seen", "forget", "canBe", "look",
        "cutOff", "few", "compare", "years", "drawn", "image", "back", "count", "status"};
    private static final int[] ARGUMENTS = {3, 2, 2, 0, 3, 2, 5, 1, 0, 0, 0, 0, 0, 0, 1, 1, 2, 1, 2, 0, 0, 4, 4, 3, 2, 3,
        2, 1, 1, 2, 2, 0, 0, 1, 0, 2, 3, 2, 2, 1, 1, 1, 0};
    /** By calls and arguments: the least and the most that is in range. */
    private static final int[][] RANGES = {{0, 24, 0, 3, 0, 9}, {0, 5, 0, 7}, {0, 24, 0, 1}, {}, {0, 5, 0, 3, 0, 1},
        {0, 2, 0, 10}, {0, 0, 0, 0, 0, 0, 0, 0, 0, 0}, {0, 60}, {}, {}, {}, {}, {}, {}, {-1, 5}, {0, 5}, {0, 5, 0, 1},
        {0, 5}, {0, 5, 0, 3}, {}, {}, {0, 5, 0, 6, 0, 6, 0, 6}, {0, 5, 0, 6, 0, 6, 0, 6}, {0, 5, 0, 24, -1, 9},
        {0, 5, 0, 24}, {0, 5, 0, 24, 0, 30}, {0, 24, 0, 12}, {0, 6}, {0, 5}, {0, 5, 0, 3}, {0, 3, 0, 12}, {}, {},
        {0, 1}, {}, {1, 20, 0, 99}, {-1, 5, 0, 5, 0, 3}, {0, 1000000, 1, 60}, {0, 5, 0, 5}, {0, 1}, {0, 1}, {0, 14}, {}};
    /** How often each call is drawn: the acts more often, those that clear what can be undone seldom. */
    private static final int[] WEIGHTS = {3, 6, 4, 1, 6, 1, 1, 1, 1, 1, 1, 1, 2, 2, 5, 14, 10, 8, 6, 2, 6, 3, 3, 5, 4, 3,
        3, 2, 3, 4, 6, 1, 4, 4, 4, 2, 4, 3, 6, 2, 2, 8, 6};

    private static final Method[] ITS_METHODS = methods(SoleReader.class);
    private static final Method[] MODEL_METHODS = methods(Model.class);

    private final Random random;
    private final SoleReader x = new SoleReader();
    private final Model model = new Model();
    private final StringBuilder told = new StringBuilder();
    private int calls = 0;

    private ModelTests(long seed) {
        random = new Random(seed);
    }

    public static void main(String[] args) {
        Due due = new Due("ModelTests");
        for (int run = 0; run < RUNS; run++) {
            ModelTests one = new ModelTests(run);
            boolean alike = one.run();
            due.holds("run " + run + " is alike", alike);
            if (!alike) {
                System.out.println(one.told);
                break;
            }
        }
        due.close();
    }

    private boolean run() {
        int pairs = random.nextInt(7);
        for (int i = 0; i < pairs; i++) {
            if (!call(0, random.nextInt(25), random.nextInt(4), random.nextInt(10))) {
                return false;
            }
        }
        int walls = random.nextInt(9);
        for (int i = 0; i < walls; i++) {
            if (!call(2, random.nextInt(25), 1)) {
                return false;
            }
        }
        while (calls < CALLS - 120) {
            int kind = random.nextInt(48);
            boolean fine = kind < 4 ? text(10) : kind < 8 ? text(11) : kind == 8 ? rowBytes() : kind == 9 ? fullTape()
                : drawnCall();
            if (!fine) {
                return false;
            }
        }
        return allTold();
    }

    private boolean drawnCall() {
        int all = 0;
        for (int weight : WEIGHTS) {
            all += weight;
        }
        int at = random.nextInt(all);
        int which = 0;
        while (at >= WEIGHTS[which]) {
            at -= WEIGHTS[which];
            which++;
        }
        int[] a = new int[5];
        for (int i = 0; i < ARGUMENTS[which]; i++) {
            a[i] = argument(RANGES[which][2 * i], RANGES[which][2 * i + 1]);
        }
        int pairs = x.count(0);
        boolean firstIsPair = RANGES[which].length > 1 && RANGES[which][0] == 0 && RANGES[which][1] == 5;
        if (firstIsPair && pairs > 0 && random.nextInt(20) != 0) {
            a[0] = random.nextInt(pairs);
        }
        if (which == 5 && a[0] == 0 && random.nextBoolean()) {
            a[1] = 980 + random.nextInt(22);
        }
        return call(which, a);
    }

    private int argument(int from, int to) {
        int odd = random.nextInt(60);
        int[] wild = {from - 1, to + 1, -1, Integer.MIN_VALUE, Integer.MAX_VALUE, from, to};
        return odd < wild.length ? wild[odd] : from + random.nextInt(to - from + 1);
    }

    private boolean text(int which) {
        String text = new Texts(random).text(which == 11);
        if (random.nextInt(4) == 0) {
            text = Texts.spoilt(random, text);
        }
        if (!putBoth(text) || !call(which)) {
            return false;
        }
        boolean fine = call(12) && call(13);
        if (which == 10 && random.nextInt(3) != 0) {
            fine = fine && call(14, x.count(3) - 1);
        }
        if (x.count(3) == 6 && random.nextInt(4) == 0) {
            fine = fine && call(40, random.nextInt(2));
        }
        return fine;
    }

    private boolean rowBytes() {
        StringBuilder bytes = new StringBuilder();
        int length = random.nextInt(25);
        for (int i = 0; i < length; i++) {
            int most = new int[] {27, 5, 11}[i % 3];
            bytes.append((char) (random.nextInt(30) == 0 ? random.nextInt(256) : random.nextInt(most)));
        }
        return putBoth(bytes.toString()) && call(8) && call(9);
    }

    private boolean fullTape() {
        boolean fine = call(7, 0);
        for (int i = 0; i < 22 && fine && random.nextInt(40) != 0; i++) {
            fine = call(6, random.nextInt(), 0x01010101, 0x20202020, random.nextInt(), 0x18030900);
        }
        return fine && call(8 + random.nextInt(4)) && call(9) && call(12);
    }

    private boolean putBoth(String text) {
        if (!call(7, 0)) {
            return false;
        }
        for (int i = 0; i < text.length(); i += 20) {
            int[] five = new int[5];
            for (int k = 0; k < 20; k++) {
                int sign = i + k < text.length() ? text.charAt(i + k) : ' ';
                five[k / 4] = five[k / 4] << 8 | sign;
            }
            if (!call(6, five)) {
                return false;
            }
        }
        return call(7, text.length());
    }

    /** Asks all that can be asked of what stands. */
    private boolean allTold() {
        for (int what = 0; what < 15; what++) {
            if (!call(41, what)) {
                return false;
            }
        }
        for (int pair = 0; pair < 6; pair++) {
            for (int what = 0; what < 8; what++) {
                if (!call(1, pair, what) || !call(38, pair, what)) {
                    return false;
                }
            }
        }
        return call(3);
    }

    private boolean call(int which, int... given) {
        int[] a = new int[5];
        System.arraycopy(given, 0, a, 0, given.length);
        calls++;
        long got = asked(x, ITS_METHODS, which, a);
        long want = asked(model, MODEL_METHODS, which, a);
        told.append(NAMES[which]).append('(');
        for (int i = 0; i < ARGUMENTS[which]; i++) {
            told.append(i == 0 ? "" : ", ").append(a[i]);
        }
        told.append(") -> ").append(got).append(got == want ? "" : ", the Model: " + want).append('\n');
        return got == want;
    }

    private static Method[] methods(Class<?> of) {
        Method[] all = new Method[NAMES.length];
        for (Method m : of.getDeclaredMethods()) {
            for (int i = 0; i < NAMES.length; i++) {
                if (m.getName().equals(NAMES[i]) && m.getParameterCount() == ARGUMENTS[i] && !m.isSynthetic()) {
                    all[i] = m;
                }
            }
        }
        return all;
    }

    private static long asked(Object of, Method[] methods, int which, int[] a) {
        Object[] given = new Object[ARGUMENTS[which]];
        for (int i = 0; i < given.length; i++) {
            given[i] = a[i];
        }
        try {
            return ((Number) methods[which].invoke(of, given)).longValue();
        } catch (ReflectiveOperationException e) {
            throw new IllegalStateException(NAMES[which], e);
        }
    }
}
