import java.util.Random;

/** Promises 1 to 8 together: long runs of calls, good and wrong, against the model. */
public final class RunsTest {
    private static final int RUNS = 150;
    private static final int CALLS = 512;

    private enum Kind {
        CLEAR(0), TAKE(8), FILL(2000), COPY(7), MIX(0), LANE(24), DIGEST(3);

        /** The last good value of the number that comes beside s; 0 too where there is none. */
        private final int last;

        Kind(int last) {
            this.last = last;
        }
    }

    /** Bytes come in and are looked at more often than they are cleared or copied away. */
    private static final Kind[] KINDS = {
        Kind.CLEAR, Kind.COPY, Kind.MIX, Kind.TAKE, Kind.TAKE, Kind.TAKE, Kind.FILL, Kind.FILL, Kind.LANE, Kind.LANE,
        Kind.LANE, Kind.DIGEST, Kind.DIGEST
    };

    private record Call(Kind kind, int s, long v, int step, int n) {
        static Call drawn(Random random) {
            Kind kind = KINDS[random.nextInt(KINDS.length)];
            int n = kind.last == 0 ? 0 : near(random, kind.last);
            return new Call(kind, near(random, 7), random.nextLong(), random.nextInt(), n);
        }

        boolean good() {
            return 0 <= s && s <= 7 && 0 <= n && n <= kind.last;
        }

        long on(KeccakLanes x) {
            switch (kind) {
                case TAKE: return x.take(s, v, n);
                case FILL: return x.fill(s, (int) v, step, n);
                case LANE: return x.lane(s, n);
                case DIGEST: return x.digest(s, n);
                case CLEAR: x.clear(s); return 0;
                case COPY: x.copy(s, n); return 0;
                default: x.mix(s); return 0;
            }
        }

        long on(Model m) {
            switch (kind) {
                case TAKE: return m.take(s, v, n);
                case FILL: return m.fill(s, (int) v, step, n);
                case LANE: return m.lane(s, n);
                case DIGEST: return m.digest(s, n);
                case CLEAR: m.clear(s); return 0;
                case COPY: m.copy(s, n); return 0;
                default: m.mix(s); return 0;
            }
        }
    }

    public static void main(String[] args) {
        Checks checks = new Checks();
        for (int run = 0; run < RUNS; run++) {
            Random random = new Random(run);
            KeccakLanes x = new KeccakLanes();
            Model m = new Model();
            for (int i = 0; i < CALLS; i++) {
                Call call = Call.drawn(random);
                compare(checks, "run " + run + ", call " + i + ", " + call, call, x, m);
            }
        }
        checks.end();
    }

    private static void compare(Checks checks, String what, Call call, KeccakLanes x, Model m) {
        boolean thrown = false;
        long got = 0;
        try {
            got = call.on(x);
        } catch (IllegalArgumentException e) {
            thrown = true;
        }
        checks.isTrue(what + " throws just if a number is out of range", thrown != call.good());
        if (call.good()) {
            checks.due(what, got, call.on(m));
        }
    }

    /** A number of 0 .. last, its ends more often than the rest, and now and then one outside. */
    private static int near(Random random, int last) {
        switch (random.nextInt(40)) {
            case 0: return -1 - random.nextInt(3);
            case 1: return last + 1 + random.nextInt(3);
            case 2: return 0;
            case 3: return last;
            default: return random.nextInt(last + 1);
        }
    }
}
