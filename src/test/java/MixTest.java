/** Promise 6: mix. */
public final class MixTest {
    public static void main(String[] args) throws Exception {
        Sentences.test(MixTest.class);
    }

    @Says("s 0 .. 7 (so for all)")
    static void sTooSmall(Checks checks) {
        checks.refusedBelow("mix(s)", (x, s) -> x.mix(s));
    }

    @Says("s 0 .. 7 (so for all)")
    static void sTooLarge(Checks checks) {
        checks.refusedAbove("mix(s)", 7, (x, s) -> x.mix(s));
    }

    @Says("s 0 .. 7 (so for all)")
    static void sFrom0To7(Checks checks) {
        checks.takenInside("mix(s)", 7, (x, s) -> x.mix(s));
    }

    @Says("It is MIXED")
    static void whenNew(Checks checks) {
        for (int s = 0; s < Checks.STATES; s++) {
            KeccakLanes x = new KeccakLanes();
            x.mix(s);
            checks.lanesAre("mix(" + s + ")", x, s, Known.MIXED_ONCE);
        }
    }

    @Says("It is MIXED")
    static void twice(Checks checks) {
        for (int s = 0; s < Checks.STATES; s++) {
            KeccakLanes x = new KeccakLanes();
            x.mix(s);
            x.mix(s);
            checks.lanesAre("mix(" + s + ") twice", x, s, Known.MIXED_TWICE);
        }
    }

    @Says("It is MIXED")
    static void withBytesAtEveryPlace(Checks checks) {
        for (int place = 0; place < 136; place++) {
            KeccakLanes x = new KeccakLanes();
            Model m = new Model();
            x.fill(5, 200, 3, place);
            m.fill(5, 200, 3, place);
            x.mix(5);
            m.mix(5);
            checks.sameState("mix at place " + place, x, m, 5);
        }
    }

    @Says("It is MIXED")
    static void otherStatesStay(Checks checks) {
        checks.othersStay("mix(s)", (x, s) -> x.mix(s));
    }

    @Says("its place stays.")
    static void atPlace0WhenNew(Checks checks) {
        KeccakLanes x = new KeccakLanes();
        x.mix(2);
        checks.due("the place", Checks.place(x, 2), 0);
    }

    @Says("its place stays.")
    static void atPlace0BehindAFull136(Checks checks) {
        KeccakLanes x = new KeccakLanes();
        x.fill(2, 0, 0, 136);
        x.mix(2);
        checks.due("the place", Checks.place(x, 2), 0);
        checks.lanesAre("136 bytes 0, and mixed by hand", x, 2, Known.MIXED_TWICE);
    }

    @Says("its place stays.")
    static void atPlace135(Checks checks) {
        KeccakLanes x = new KeccakLanes();
        x.fill(2, 0, 0, 135);
        x.mix(2);
        checks.due("the place", Checks.place(x, 2), 135);
        checks.lanesAre("135 bytes 0, and mixed by hand", x, 2, Known.MIXED_ONCE);
        checks.due("take of the byte at 135", x.take(2, 0L, 1), 0);
        checks.lanesAre("and full", x, 2, Known.MIXED_TWICE);
    }

    @Says("its place stays.")
    static void atEveryPlace(Checks checks) {
        for (int place = 0; place < 136; place++) {
            KeccakLanes x = new KeccakLanes();
            x.fill(2, 0, 0, place);
            x.mix(2);
            checks.due("the place after mix at " + place, Checks.place(x, 2), place);
        }
    }

    @Says("its place stays.")
    static void theNextByteGoesToThePlace(Checks checks) {
        for (int place = 0; place < 135; place++) {
            KeccakLanes x = new KeccakLanes();
            x.fill(2, 0, 0, place);
            x.mix(2);
            checks.due("take after mix at " + place, x.take(2, 0xFFL, 1), place + 1);
            long[] due = Known.MIXED_ONCE.clone();
            due[place / 8] ^= 0xFFL << (8 * (place % 8));
            checks.lanesAre("the byte taken in after mix at " + place, x, 2, due);
        }
    }
}
