/** "What it is": an object holds for 512 calls, the last of them too. */
public final class CallsTest {
    private static final int MOST = 512;

    public static void main(String[] args) throws Exception {
        Sentences.test(CallsTest.class);
    }

    @Says("An object is used for at most 512 calls after it has been made")
    static void takes(Checks checks) {
        KeccakLanes x = new KeccakLanes();
        Model m = new Model();
        for (int i = 0; i < MOST - 1; i++) {
            checks.due("take " + i, x.take(3, -1L - i, 8), (8 * i + 8) % 136);
            m.take(3, -1L - i, 8);
        }
        checks.due("digest as call 512", x.digest(3, 0), m.digest(3, 0));
    }

    /** The calls that take in most: 1,022,000 bytes in all. */
    @Says("An object is used for at most 512 calls after it has been made")
    static void fillsOf2000(Checks checks) {
        KeccakLanes x = new KeccakLanes();
        Model m = new Model();
        for (int i = 0; i < MOST - 1; i++) {
            checks.due("fill " + i, x.fill(3, i, 3, 2000), m.fill(3, i, 3, 2000));
        }
        checks.due("digest as call 512", x.digest(3, 3), m.digest(3, 3));
    }

    @Says("An object is used for at most 512 calls after it has been made")
    static void looksAndDigests(Checks checks) {
        KeccakLanes x = new KeccakLanes();
        for (int i = 0; i < MOST; i += 2) {
            checks.due("lane as call " + (i + 1), x.lane(i % 8, i % 25), 0L);
            checks.due("digest as call " + (i + 2), x.digest(i % 8, i % 4), Known.part(Known.OF_NOTHING, i % 4));
        }
    }

    @Says("An object is used for at most 512 calls after it has been made")
    static void mixesCopiesAndClears(Checks checks) {
        KeccakLanes x = new KeccakLanes();
        Model m = new Model();
        for (int i = 0; i < 170; i++) {
            x.mix(i % 8);
            m.mix(i % 8);
            x.copy(i % 8, i * 3 % 8);
            m.copy(i % 8, i * 3 % 8);
            x.clear(i * 5 % 8);
            m.clear(i * 5 % 8);
        }
        checks.due("lane as call 511", x.lane(1, 0), m.lane(1, 0));
        checks.due("lane as call 512", x.lane(7, 24), m.lane(7, 24));
    }

    @Says("An object is used for at most 512 calls after it has been made")
    static void mixes(Checks checks) {
        KeccakLanes x = new KeccakLanes();
        Model m = new Model();
        for (int i = 0; i < MOST - 1; i++) {
            x.mix(2);
            m.mix(2);
        }
        checks.due("lane as call 512", x.lane(2, 24), m.lane(2, 24));
    }

    /** All copies but the last are of state 0, so that the last one is seen. */
    @Says("An object is used for at most 512 calls after it has been made")
    static void copies(Checks checks) {
        KeccakLanes x = new KeccakLanes();
        x.take(1, 0x0BL, 1);
        for (int i = 1; i < MOST - 2; i++) {
            x.copy(0, 2);
        }
        x.copy(1, 2);
        checks.due("lane as call 512", x.lane(2, 0), 0x0BL);
    }

    /** All clears but the last are of state 0, so that the last one is seen. */
    @Says("An object is used for at most 512 calls after it has been made")
    static void clears(Checks checks) {
        KeccakLanes x = new KeccakLanes();
        x.take(1, 0x0BL, 1);
        for (int i = 1; i < MOST - 2; i++) {
            x.clear(0);
        }
        x.clear(1);
        checks.due("lane as call 512", x.lane(1, 0), 0L);
    }

    @Says("An object is used for at most 512 calls after it has been made")
    static void looks(Checks checks) {
        KeccakLanes x = new KeccakLanes();
        x.take(1, 0x0BL, 1);
        for (int i = 1; i < MOST; i++) {
            checks.due("lane as call " + (i + 1), x.lane(1, 0), 0x0BL);
        }
    }

    @Says("An object is used for at most 512 calls after it has been made")
    static void digests(Checks checks) {
        KeccakLanes x = new KeccakLanes();
        for (int i = 0; i < MOST; i++) {
            checks.due("digest as call " + (i + 1), x.digest(i % 8, 0), Known.part(Known.OF_NOTHING, 0));
        }
    }

    @Says("An object is used for at most 512 calls after it has been made")
    static void refusedCalls(Checks checks) {
        KeccakLanes x = new KeccakLanes();
        x.fill(5, 'a', 0, 135);
        for (int i = 1; i < MOST - 1; i++) {
            String thrown = Checks.thrownBy(x, y -> y.fill(5, 1, 1, 2001));
            checks.isTrue("refused call " + i + " throws IllegalArgumentException, threw " + thrown,
                thrown.equals("java.lang.IllegalArgumentException"));
        }
        checks.due("digest as call 512", x.digest(5, 0), 0x34367DC248BBD832L);
    }

    @Says("An object is used for at most 512 calls after it has been made")
    static void refusedAsCall512(Checks checks) {
        KeccakLanes x = new KeccakLanes();
        for (int i = 0; i < MOST - 1; i++) {
            x.take(0, i, 1);
        }
        String thrown = Checks.thrownBy(x, y -> y.take(8, 0L, 0));
        checks.isTrue("call 512 throws IllegalArgumentException, threw " + thrown,
            thrown.equals("java.lang.IllegalArgumentException"));
    }

    /** What call 511 changed is seen by call 512. */
    @Says("An object is used for at most 512 calls after it has been made")
    static void changesByCall511(Checks checks) {
        seenByCall512(checks, "clear", x -> x.clear(6), 0L);
        seenByCall512(checks, "take", x -> x.take(6, 0xFFL, 1), 0xFFAAL);
        seenByCall512(checks, "fill", x -> x.fill(6, 1, 1, 7), 0x07060504030201AAL);
        seenByCall512(checks, "copy", x -> x.copy(0, 6), 0x0BL);
        seenByCall512(checks, "mix", x -> x.mix(6), mixedByModel());
    }

    @Says("An object is used for at most 512 calls after it has been made")
    static void answersByCall512(Checks checks) {
        checks.due("take as call 512", behind511Calls().take(6, 0xFFL, 1), 1);
        checks.due("fill as call 512", behind511Calls().fill(6, 1, 1, 2000), 96);
        checks.due("lane as call 512", behind511Calls().lane(0, 0), 0x0BL);
        checks.due("digest as call 512", behind511Calls().digest(6, 0), Known.part(Known.OF_NOTHING, 0));
    }

    private static KeccakLanes behind511Calls() {
        KeccakLanes x = new KeccakLanes();
        x.take(0, 0x0BL, 1);
        for (int i = 1; i < MOST - 1; i++) {
            x.lane(6, 0);
        }
        return x;
    }

    private static void seenByCall512(Checks checks, String what, Checks.Call call, long due) {
        KeccakLanes x = new KeccakLanes();
        x.take(6, 0xAAL, 1);
        x.take(0, 0x0BL, 1);
        for (int i = 2; i < MOST - 2; i++) {
            x.lane(6, 0);
        }
        call.on(x);
        checks.due("lane as call 512 behind " + what, x.lane(6, 0), due);
    }

    private static long mixedByModel() {
        Model m = new Model();
        m.take(6, 0xAAL, 1);
        m.mix(6);
        return m.lane(6, 0);
    }
}
