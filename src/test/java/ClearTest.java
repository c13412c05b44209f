/** Promise 2: clear. */
public final class ClearTest {
    public static void main(String[] args) throws Exception {
        Sentences.test(ClearTest.class);
    }

    @Says("s 0 .. 7 (so for all)")
    static void sTooSmall(Checks checks) {
        checks.refusedBelow("clear(s)", (x, s) -> x.clear(s));
    }

    @Says("s 0 .. 7 (so for all)")
    static void sTooLarge(Checks checks) {
        checks.refusedAbove("clear(s)", 7, (x, s) -> x.clear(s));
    }

    @Says("s 0 .. 7 (so for all)")
    static void sFrom0To7(Checks checks) {
        checks.takenInside("clear(s)", 7, (x, s) -> x.clear(s));
    }

    @Says("All LANES of STATE s and its place are 0.")
    static void whenNew(Checks checks) {
        for (int s = 0; s < Checks.STATES; s++) {
            KeccakLanes x = new KeccakLanes();
            x.clear(s);
            checks.sameStates("clear(" + s + ") of a new object", x, new Model());
        }
    }

    @Says("All LANES of STATE s and its place are 0.")
    static void whenPartFull(Checks checks) {
        int[] counts = {1, 7, 8, 9, 134, 135, 137, 271};
        for (int count : counts) {
            KeccakLanes x = new KeccakLanes();
            x.fill(4, 255, 0, count);
            x.clear(4);
            checks.sameStates("clear(4) behind " + count + " bytes", x, new Model());
        }
    }

    @Says("All LANES of STATE s and its place are 0.")
    static void whenJustMixedAtPlace0(Checks checks) {
        KeccakLanes x = new KeccakLanes();
        x.fill(4, 1, 1, 136);
        x.clear(4);
        checks.sameStates("clear(4) behind a full 136", x, new Model());
        x.mix(4);
        x.clear(4);
        checks.sameStates("clear(4) behind mix", x, new Model());
    }

    @Says("All LANES of STATE s and its place are 0.")
    static void whenBusyInEveryState(Checks checks) {
        for (int s = 0; s < Checks.STATES; s++) {
            KeccakLanes x = Checks.busy();
            x.clear(s);
            checks.sameState("clear(" + s + ")", x, s, new KeccakLanes(), 0);
        }
    }

    @Says("All LANES of STATE s and its place are 0.")
    static void twice(Checks checks) {
        KeccakLanes x = new KeccakLanes();
        x.fill(7, 3, 5, 100);
        x.clear(7);
        x.clear(7);
        checks.sameStates("clear(7) twice", x, new Model());
    }

    @Says("All LANES of STATE s and its place are 0.")
    static void otherStatesStay(Checks checks) {
        checks.othersStay("clear(s)", (x, s) -> x.clear(s));
    }

    @Says("All LANES of STATE s and its place are 0.")
    static void takesInFromPlace0Afterwards(Checks checks) {
        KeccakLanes x = new KeccakLanes();
        x.fill(4, 255, 0, 135);
        x.clear(4);
        checks.due("take behind clear", x.take(4, 0x77L, 1), 1);
        checks.onlyLane("a byte behind clear", x, 4, 0, 0x77L);
    }
}
