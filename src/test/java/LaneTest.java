/** Promise 7: lane. */
public final class LaneTest {
    public static void main(String[] args) throws Exception {
        Sentences.test(LaneTest.class);
    }

    @Says("s 0 .. 7 (so for all)")
    static void sTooSmall(Checks checks) {
        checks.refusedBelow("lane(s, 0)", (x, s) -> x.lane(s, 0));
        checks.refusedBelow("lane(s, 24)", (x, s) -> x.lane(s, 24));
    }

    @Says("s 0 .. 7 (so for all)")
    static void sTooLarge(Checks checks) {
        checks.refusedAbove("lane(s, 0)", 7, (x, s) -> x.lane(s, 0));
        checks.refusedAbove("lane(s, 24)", 7, (x, s) -> x.lane(s, 24));
    }

    @Says("s 0 .. 7 (so for all)")
    static void sFrom0To7(Checks checks) {
        checks.takenInside("lane(s, 12)", 7, (x, s) -> x.lane(s, 12));
    }

    @Says("LANE i, 0 .. 24.")
    static void iTooSmall(Checks checks) {
        for (int s = 0; s < Checks.STATES; s++) {
            int state = s;
            checks.refusedBelow("lane(" + s + ", i)", (x, i) -> x.lane(state, i));
        }
    }

    @Says("LANE i, 0 .. 24.")
    static void iTooLarge(Checks checks) {
        for (int s = 0; s < Checks.STATES; s++) {
            int state = s;
            checks.refusedAbove("lane(" + s + ", i)", 24, (x, i) -> x.lane(state, i));
        }
    }

    @Says("LANE i, 0 .. 24.")
    static void iFrom0To24(Checks checks) {
        checks.takenInside("lane(0, i)", 24, (x, i) -> x.lane(0, i));
        checks.takenInside("lane(7, i)", 24, (x, i) -> x.lane(7, i));
    }

    @Says("What is thrown: IllegalArgumentException: a number out of range.")
    static void sAndIOutOfRangeAtOnce(Checks checks) {
        checks.refusedTwice("lane(s, i)", 7, 24, (x, s, i) -> x.lane(s, i));
    }

    @Says("LANE i, 0 .. 24.")
    static void iIs0(Checks checks) {
        for (int s = 0; s < Checks.STATES; s++) {
            KeccakLanes x = new KeccakLanes();
            checks.due("lane(" + s + ", 0) when new", x.lane(s, 0), 0L);
            x.mix(s);
            checks.due("lane(" + s + ", 0) when mixed", x.lane(s, 0), 0xF1258F7940E1DDE7L);
        }
    }

    @Says("LANE i, 0 .. 24.")
    static void iIs24(Checks checks) {
        for (int s = 0; s < Checks.STATES; s++) {
            KeccakLanes x = new KeccakLanes();
            checks.due("lane(" + s + ", 24) when new", x.lane(s, 24), 0L);
            x.mix(s);
            checks.due("lane(" + s + ", 24) when mixed", x.lane(s, 24), 0xEAF1FF7B5CECA249L);
        }
    }

    @Says("LANE i, 0 .. 24.")
    static void inTheOrderOfTheirBytes(Checks checks) {
        KeccakLanes x = new KeccakLanes();
        for (int i = 0; i < 16; i++) {
            x.take(5, -1000L - i, 8);
        }
        x.take(5, -1016L, 7);
        for (int i = 0; i < 16; i++) {
            checks.due("lane(5, " + i + ")", x.lane(5, i), -1000L - i);
        }
        checks.due("lane(5, 16)", x.lane(5, 16), -1016L & 0x00FFFFFFFFFFFFFFL);
    }

    @Says("LANE i, 0 .. 24.")
    static void lanes17To24AreNotReachedByBytes(Checks checks) {
        KeccakLanes x = new KeccakLanes();
        x.fill(1, 255, 0, 135);
        for (int i = 17; i < Checks.LANES; i++) {
            checks.due("lane(1, " + i + ") at place 135", x.lane(1, i), 0L);
        }
    }

    @Says("LANE i, 0 .. 24.")
    static void everyLaneOfEveryState(Checks checks) {
        KeccakLanes x = new KeccakLanes();
        Model m = new Model();
        for (int s = 0; s < Checks.STATES; s++) {
            x.fill(s, s, 1, 150 + s);
            m.fill(s, s, 1, 150 + s);
        }
        checks.sameStates("all", x, m);
    }

    @Says("LANE i, 0 .. 24.")
    static void lookingChangesNothing(Checks checks) {
        KeccakLanes x = Checks.busy();
        for (int s = 0; s < Checks.STATES; s++) {
            for (int i = 0; i < Checks.LANES; i++) {
                x.lane(s, i);
            }
        }
        checks.sameStates("after looking", x, Checks.busy());
    }
}
