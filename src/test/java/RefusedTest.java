/** What is thrown, and that a call that throws changes nothing: all methods together. */
public final class RefusedTest {
    /** Every number that has a range, one below it and one above. */
    private static final Checks.Call[] REFUSED = {
        x -> x.clear(-1), x -> x.clear(8),
        x -> x.take(-1, -1L, 8), x -> x.take(8, -1L, 8), x -> x.take(2, -1L, -1), x -> x.take(2, -1L, 9),
        x -> x.fill(-1, 1, 1, 136), x -> x.fill(8, 1, 1, 136), x -> x.fill(2, 1, 1, -1), x -> x.fill(2, 1, 1, 2001),
        x -> x.copy(-1, 2), x -> x.copy(8, 2), x -> x.copy(2, -1), x -> x.copy(2, 8),
        x -> x.mix(-1), x -> x.mix(8),
        x -> x.lane(-1, 0), x -> x.lane(8, 0), x -> x.lane(2, -1), x -> x.lane(2, 25),
        x -> x.digest(-1, 0), x -> x.digest(8, 0), x -> x.digest(2, -1), x -> x.digest(2, 4)
    };

    public static void main(String[] args) throws Exception {
        Sentences.test(RefusedTest.class);
    }

    @Says("What is thrown: IllegalArgumentException: a number out of range.")
    static void everyMethodRefuses(Checks checks) {
        for (int i = 0; i < REFUSED.length; i++) {
            checks.refused("refused call " + i, REFUSED[i]);
        }
    }

    @Says("What is thrown: IllegalArgumentException: a number out of range.")
    static void vAndStepHaveNoRange(Checks checks) {
        long[] vs = {Long.MIN_VALUE, -1L, 0L, 1L << 32, Long.MAX_VALUE};
        for (long v : vs) {
            String thrown = Checks.thrownBy(new KeccakLanes(), x -> x.take(0, v, 8));
            checks.isTrue("take of " + v + " throws nothing, threw " + thrown, thrown.equals("nothing"));
        }
        int[] numbers = {Integer.MIN_VALUE, -1, 0, 1, Integer.MAX_VALUE};
        for (int v : numbers) {
            for (int step : numbers) {
                String thrown = Checks.thrownBy(new KeccakLanes(), x -> x.fill(0, v, step, 2000));
                checks.isTrue("fill with " + v + " and " + step + " throws nothing, threw " + thrown,
                    thrown.equals("nothing"));
            }
        }
    }

    @Says("A call that throws changes nothing.")
    static void allRefusedOneAfterTheOther(Checks checks) {
        KeccakLanes x = Checks.busy();
        refuseAll(checks, x);
        checks.sameStates("behind all refused calls", x, Checks.busy());
    }

    @Says("A call that throws changes nothing.")
    static void whenNew(Checks checks) {
        KeccakLanes x = new KeccakLanes();
        refuseAll(checks, x);
        checks.sameStates("behind all refused calls", x, new Model());
    }

    @Says("A call that throws changes nothing.")
    static void atPlace135(Checks checks) {
        KeccakLanes x = new KeccakLanes();
        x.fill(2, 0, 0, 135);
        refuseAll(checks, x);
        checks.due("the byte at 135 behind all refused calls", x.take(2, 0xA5L, 1), 0);
        checks.lanesAre("and mixed", x, 2, Known.MIXED_A5_AT_135);
    }

    @Says("A call that throws changes nothing.")
    static void goodCallsGoOnBetween(Checks checks) {
        KeccakLanes x = new KeccakLanes();
        Model m = new Model();
        for (int i = 0; i < 5; i++) {
            refuseAll(checks, x);
            checks.due("take", x.take(2, 0x0102030405060708L, 7), m.take(2, 0x0102030405060708L, 7));
            checks.due("fill", x.fill(2, 9, i, 131), m.fill(2, 9, i, 131));
            checks.due("digest", x.digest(2, i % 4), m.digest(2, i % 4));
            x.copy(2, i);
            m.copy(2, i);
            x.mix(7);
            m.mix(7);
        }
        checks.sameStates("good calls between refused ones", x, m);
    }

    private static void refuseAll(Checks checks, KeccakLanes x) {
        for (int i = 0; i < REFUSED.length; i++) {
            String thrown = Checks.thrownBy(x, REFUSED[i]);
            checks.isTrue("refused call " + i + " throws IllegalArgumentException, threw " + thrown,
                thrown.equals("java.lang.IllegalArgumentException"));
        }
    }
}
