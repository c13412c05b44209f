/** Promise 3: take. */
public final class TakeTest {
    private static final long BYTES = 0xF1E2D3C4B5A69788L;

    public static void main(String[] args) throws Exception {
        Sentences.test(TakeTest.class);
    }

    @Says("s 0 .. 7 (so for all)")
    static void sTooSmall(Checks checks) {
        checks.refusedBelow("take(s, v, 0)", (x, s) -> x.take(s, BYTES, 0));
        checks.refusedBelow("take(s, v, 3)", (x, s) -> x.take(s, BYTES, 3));
        checks.refusedBelow("take(s, v, 8)", (x, s) -> x.take(s, BYTES, 8));
    }

    @Says("s 0 .. 7 (so for all)")
    static void sTooLarge(Checks checks) {
        checks.refusedAbove("take(s, v, 0)", 7, (x, s) -> x.take(s, BYTES, 0));
        checks.refusedAbove("take(s, v, 3)", 7, (x, s) -> x.take(s, BYTES, 3));
        checks.refusedAbove("take(s, v, 8)", 7, (x, s) -> x.take(s, BYTES, 8));
    }

    @Says("s 0 .. 7 (so for all)")
    static void sFrom0To7(Checks checks) {
        checks.takenInside("take(s, v, 3)", 7, (x, s) -> x.take(s, BYTES, 3));
    }

    @Says("n 0 .. 8.")
    static void nTooSmall(Checks checks) {
        for (int s = 0; s < Checks.STATES; s++) {
            int state = s;
            checks.refusedBelow("take(" + s + ", v, n)", (x, n) -> x.take(state, BYTES, n));
        }
    }

    @Says("n 0 .. 8.")
    static void nTooLarge(Checks checks) {
        for (int s = 0; s < Checks.STATES; s++) {
            int state = s;
            checks.refusedAbove("take(" + s + ", v, n)", 8, (x, n) -> x.take(state, BYTES, n));
        }
    }

    @Says("n 0 .. 8.")
    static void nFrom0To8(Checks checks) {
        checks.takenInside("take(3, v, n)", 8, (x, n) -> x.take(3, BYTES, n));
    }

    @Says("n 0 .. 8.")
    static void nIs0(Checks checks) {
        for (int place = 0; place < 136; place++) {
            KeccakLanes x = new KeccakLanes();
            KeccakLanes y = new KeccakLanes();
            x.fill(2, 1, 1, place);
            y.fill(2, 1, 1, place);
            checks.due("take(2, -1, 0) at place " + place, x.take(2, -1L, 0), place);
            checks.sameState("no byte at place " + place, x, 2, y, 2);
        }
    }

    @Says("n 0 .. 8.")
    static void nIs8(Checks checks) {
        KeccakLanes x = new KeccakLanes();
        checks.due("take(2, v, 8)", x.take(2, BYTES, 8), 8);
        checks.onlyLane("eight bytes", x, 2, 0, BYTES);
    }

    @Says("What is thrown: IllegalArgumentException: a number out of range.")
    static void sAndNOutOfRangeAtOnce(Checks checks) {
        checks.refusedTwice("take(s, v, n)", 7, 8, (x, s, n) -> x.take(s, BYTES, n));
    }

    @Says("The lowest n bytes of v, the lowest first, are taken in.")
    static void bytesAboveTheLowestNStayOut(Checks checks) {
        long[] due = {
            0L, 0x88L, 0x9788L, 0xA69788L, 0xB5A69788L, 0xC4B5A69788L, 0xD3C4B5A69788L, 0xE2D3C4B5A69788L, BYTES
        };
        for (int n = 0; n <= 8; n++) {
            KeccakLanes x = new KeccakLanes();
            x.take(1, BYTES, n);
            checks.onlyLane(n + " bytes", x, 1, 0, due[n]);
        }
    }

    @Says("The lowest n bytes of v, the lowest first, are taken in.")
    static void highestBitOfVSet(Checks checks) {
        KeccakLanes x = new KeccakLanes();
        checks.due("take(0, smallest, 8)", x.take(0, Long.MIN_VALUE, 8), 8);
        checks.onlyLane("the highest bit", x, 0, 0, Long.MIN_VALUE);
        KeccakLanes y = new KeccakLanes();
        checks.due("take(0, smallest, 7)", y.take(0, Long.MIN_VALUE, 7), 7);
        checks.onlyLane("all but the highest byte", y, 0, 0, 0L);
        KeccakLanes z = new KeccakLanes();
        checks.due("take(0, smallest + 1, 8)", z.take(0, Long.MIN_VALUE + 1, 8), 8);
        checks.onlyLane("the highest bit and the lowest", z, 0, 0, Long.MIN_VALUE + 1);
    }

    @Says("The lowest n bytes of v, the lowest first, are taken in.")
    static void everyBitOfVSet(Checks checks) {
        for (int n = 1; n <= 8; n++) {
            KeccakLanes x = new KeccakLanes();
            x.take(0, -1L, n);
            checks.onlyLane(n + " bytes of -1", x, 0, 0, -1L >>> (64 - 8 * n));
        }
    }

    @Says("The lowest n bytes of v, the lowest first, are taken in.")
    static void highestBitOfEachByteSet(Checks checks) {
        long[] lane0 = {
            0L, 0x8000000000L, 0x808000000000L, 0x80808000000000L, 0x8080808000000000L, 0x8080808000000000L,
            0x8080808000000000L, 0x8080808000000000L, 0x8080808000000000L
        };
        long[] lane1 = {0L, 0L, 0L, 0L, 0L, 0x80L, 0x8080L, 0x808080L, 0x80808080L};
        for (int n = 0; n <= 8; n++) {
            KeccakLanes x = new KeccakLanes();
            x.fill(0, 0, 0, 4);
            x.take(0, 0x8080808080808080L, n);
            checks.due("lane 0 with " + n + " bytes from place 4", x.lane(0, 0), lane0[n]);
            checks.due("lane 1 with " + n + " bytes from place 4", x.lane(0, 1), lane1[n]);
        }
    }

    @Says("The lowest n bytes of v, the lowest first, are taken in.")
    static void overTwoLanes(Checks checks) {
        KeccakLanes x = new KeccakLanes();
        checks.due("take of 5", x.take(0, BYTES, 5), 5);
        checks.due("take of 8 over two lanes", x.take(0, -1L, 8), 13);
        checks.due("lane 0", x.lane(0, 0), 0xFFFFFFC4B5A69788L);
        checks.due("lane 1", x.lane(0, 1), 0x000000FFFFFFFFFFL);
    }

    @Says("Answers the place.")
    static void as136IsReached(Checks checks) {
        for (int n = 1; n <= 8; n++) {
            KeccakLanes x = new KeccakLanes();
            x.fill(6, 1, 3, 136 - n);
            checks.due("take of " + n + " at place " + (136 - n), x.take(6, BYTES, n), 0);
        }
    }

    @Says("Answers the place.")
    static void as135IsReached(Checks checks) {
        for (int n = 0; n <= 8; n++) {
            KeccakLanes x = new KeccakLanes();
            x.fill(6, 1, 3, 135 - n);
            checks.due("take of " + n + " at place " + (135 - n), x.take(6, BYTES, n), 135);
        }
    }

    @Says("Answers the place.")
    static void as136IsPassed(Checks checks) {
        for (int place = 129; place < 136; place++) {
            KeccakLanes x = new KeccakLanes();
            x.fill(6, 1, 3, place);
            checks.due("take of 8 at place " + place, x.take(6, BYTES, 8), place - 128);
        }
    }

    @Says("Answers the place.")
    static void atEveryPlaceForEveryN(Checks checks) {
        for (int place = 0; place < 136; place++) {
            for (int n = 0; n <= 8; n++) {
                KeccakLanes x = new KeccakLanes();
                Model m = new Model();
                x.fill(6, 1, 3, place);
                m.fill(6, 1, 3, place);
                String what = "take(6, v, " + n + ") at place " + place;
                checks.due(what, x.take(6, BYTES, n), m.take(6, BYTES, n));
                checks.sameState(what, x, m, 6);
            }
        }
    }

    @Says("The lowest n bytes of v, the lowest first, are taken in.")
    static void otherStatesStay(Checks checks) {
        checks.othersStay("take(s, v, 8)", (x, s) -> x.take(s, BYTES, 8));
    }
}
