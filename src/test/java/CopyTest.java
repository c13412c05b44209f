/** Promise 5: copy. */
public final class CopyTest {
    public static void main(String[] args) throws Exception {
        Sentences.test(CopyTest.class);
    }

    @Says("s 0 .. 7 (so for all)")
    static void sTooSmall(Checks checks) {
        for (int to = 0; to < Checks.STATES; to++) {
            int target = to;
            checks.refusedBelow("copy(s, " + to + ")", (x, s) -> x.copy(s, target));
        }
    }

    @Says("s 0 .. 7 (so for all)")
    static void sTooLarge(Checks checks) {
        for (int to = 0; to < Checks.STATES; to++) {
            int target = to;
            checks.refusedAbove("copy(s, " + to + ")", 7, (x, s) -> x.copy(s, target));
        }
    }

    @Says("s 0 .. 7 (so for all)")
    static void toTooSmall(Checks checks) {
        for (int s = 0; s < Checks.STATES; s++) {
            int from = s;
            checks.refusedBelow("copy(" + s + ", to)", (x, to) -> x.copy(from, to));
        }
    }

    @Says("s 0 .. 7 (so for all)")
    static void toTooLarge(Checks checks) {
        for (int s = 0; s < Checks.STATES; s++) {
            int from = s;
            checks.refusedAbove("copy(" + s + ", to)", 7, (x, to) -> x.copy(from, to));
        }
    }

    @Says("What is thrown: IllegalArgumentException: a number out of range.")
    static void sAndToOutOfRangeAtOnce(Checks checks) {
        checks.refusedTwice("copy(s, to)", 7, 7, (x, s, to) -> x.copy(s, to));
    }

    @Says("What is thrown: IllegalArgumentException: a number out of range.")
    static void sAndToTheSameAndOutOfRange(Checks checks) {
        checks.refusedBelow("copy(s, s)", (x, s) -> x.copy(s, s));
        checks.refusedAbove("copy(s, s)", 7, (x, s) -> x.copy(s, s));
    }

    @Says("STATE to is what s is.")
    static void sAndToTheSame(Checks checks) {
        for (int s = 0; s < Checks.STATES; s++) {
            KeccakLanes x = Checks.busy();
            x.copy(s, s);
            checks.sameStates("copy(" + s + ", " + s + ")", x, Checks.busy());
        }
    }

    @Says("STATE to is what s is.")
    static void everyStateToEveryState(Checks checks) {
        for (int s = 0; s < Checks.STATES; s++) {
            for (int to = 0; to < Checks.STATES; to++) {
                KeccakLanes x = Checks.busy();
                x.copy(s, to);
                checks.sameState("copy(" + s + ", " + to + ")", x, to, Checks.busy(), s);
            }
        }
    }

    @Says("STATE to is what s is.")
    static void sAndTheOthersStay(Checks checks) {
        for (int s = 0; s < Checks.STATES; s++) {
            int from = s;
            checks.othersStay("copy(" + s + ", to)", (x, to) -> x.copy(from, to));
        }
    }

    @Says("STATE to is what s is.")
    static void ofANewState(Checks checks) {
        KeccakLanes x = Checks.busy();
        x.clear(0);
        x.copy(0, 7);
        checks.sameState("a copy of a clear state", x, 7, new KeccakLanes(), 0);
    }

    @Says("STATE to is what s is.")
    static void thePlaceGoesAlong(Checks checks) {
        int[] places = {0, 1, 7, 8, 134, 135};
        for (int place : places) {
            for (int before : places) {
                KeccakLanes x = new KeccakLanes();
                x.fill(1, 0, 0, place);
                x.fill(6, 0, 0, before);
                x.copy(1, 6);
                String what = "a copy at place " + place + " over one at " + before;
                checks.due(what, Checks.place(x, 6), place);
                checks.due(what + ", a byte later", x.take(6, 0xA5L, 1), (place + 1) % 136);
                checks.due(what + ", the first", Checks.place(x, 1), place);
            }
        }
    }

    @Says("STATE to is what s is.")
    static void theCopyAt135IsFullAByteLater(Checks checks) {
        KeccakLanes x = new KeccakLanes();
        x.fill(1, 0, 0, 135);
        x.copy(1, 6);
        x.take(6, 0xA5L, 1);
        checks.lanesAre("the copy, mixed", x, 6, Known.MIXED_A5_AT_135);
        checks.lanesAre("the first, not mixed", x, 1, new long[Checks.LANES]);
    }

    @Says("STATE to is what s is.")
    static void theCopyGoesOnApart(Checks checks) {
        goesOnApart(checks, "clear of the copy", 1, 6, x -> x.clear(6));
        goesOnApart(checks, "take by the copy", 1, 6, x -> x.take(6, -1L, 8));
        goesOnApart(checks, "fill of the copy", 1, 6, x -> x.fill(6, 1, 1, 200));
        goesOnApart(checks, "copy to the copy", 1, 6, x -> x.copy(3, 6));
        goesOnApart(checks, "mix of the copy", 1, 6, x -> x.mix(6));
    }

    @Says("STATE to is what s is.")
    static void theFirstGoesOnApart(Checks checks) {
        goesOnApart(checks, "clear of the first", 6, 1, x -> x.clear(1));
        goesOnApart(checks, "take by the first", 6, 1, x -> x.take(1, -1L, 8));
        goesOnApart(checks, "fill of the first", 6, 1, x -> x.fill(1, 1, 1, 200));
        goesOnApart(checks, "copy to the first", 6, 1, x -> x.copy(3, 1));
        goesOnApart(checks, "mix of the first", 6, 1, x -> x.mix(1));
    }

    /** Behind copy(1, 6) the call changes one of the two, and the other stays what 1 was. */
    private static void goesOnApart(Checks checks, String what, int stays, int goesOn, Checks.Call call) {
        KeccakLanes x = Checks.busy();
        x.copy(1, 6);
        call.on(x);
        checks.sameState(what + ", the other", x, stays, Checks.busy(), 1);
        KeccakLanes alone = Checks.busy();
        alone.copy(1, goesOn);
        call.on(alone);
        checks.sameState(what, x, goesOn, alone, goesOn);
    }

    @Says("STATE to is what s is.")
    static void bothTakeInTheirOwnBytes(Checks checks) {
        KeccakLanes x = new KeccakLanes();
        Model m = new Model();
        x.fill(2, 5, 9, 130);
        x.copy(2, 3);
        m.fill(2, 5, 9, 130);
        m.fill(3, 5, 9, 130);
        for (int i = 0; i < 20; i++) {
            checks.due("byte " + i + " of the first", x.take(2, i, 1), m.take(2, i, 1));
            checks.due("byte " + i + " of the copy", x.take(3, 100 + i, 1), m.take(3, 100 + i, 1));
        }
        checks.sameStates("both", x, m);
    }
}
