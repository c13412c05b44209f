import java.math.BigInteger;

/** Promise 4: fill. */
public final class FillTest {
    public static void main(String[] args) throws Exception {
        Sentences.test(FillTest.class);
    }

    @Says("s 0 .. 7 (so for all)")
    static void sTooSmall(Checks checks) {
        checks.refusedBelow("fill(s, 1, 1, 0)", (x, s) -> x.fill(s, 1, 1, 0));
        checks.refusedBelow("fill(s, 1, 1, 140)", (x, s) -> x.fill(s, 1, 1, 140));
        checks.refusedBelow("fill(s, 1, 1, 2000)", (x, s) -> x.fill(s, 1, 1, 2000));
    }

    @Says("s 0 .. 7 (so for all)")
    static void sTooLarge(Checks checks) {
        checks.refusedAbove("fill(s, 1, 1, 0)", 7, (x, s) -> x.fill(s, 1, 1, 0));
        checks.refusedAbove("fill(s, 1, 1, 140)", 7, (x, s) -> x.fill(s, 1, 1, 140));
        checks.refusedAbove("fill(s, 1, 1, 2000)", 7, (x, s) -> x.fill(s, 1, 1, 2000));
    }

    @Says("s 0 .. 7 (so for all)")
    static void sFrom0To7(Checks checks) {
        checks.takenInside("fill(s, 1, 1, 140)", 7, (x, s) -> x.fill(s, 1, 1, 140));
    }

    @Says("n 0 .. 2000.")
    static void nTooSmall(Checks checks) {
        for (int s = 0; s < Checks.STATES; s++) {
            int state = s;
            checks.refusedBelow("fill(" + s + ", 1, 1, n)", (x, n) -> x.fill(state, 1, 1, n));
        }
    }

    @Says("n 0 .. 2000.")
    static void nTooLarge(Checks checks) {
        for (int s = 0; s < Checks.STATES; s++) {
            int state = s;
            checks.refusedAbove("fill(" + s + ", 1, 1, n)", 2000, (x, n) -> x.fill(state, 1, 1, n));
        }
    }

    @Says("n 0 .. 2000.")
    static void nFrom0To2000(Checks checks) {
        checks.takenInside("fill(5, 1, 1, n)", 2000, (x, n) -> x.fill(5, 1, 1, n));
    }

    @Says("n 0 .. 2000.")
    static void nIs0(Checks checks) {
        for (int place = 0; place < 136; place++) {
            KeccakLanes x = new KeccakLanes();
            KeccakLanes y = new KeccakLanes();
            x.fill(2, 1, 1, place);
            y.fill(2, 1, 1, place);
            checks.due("fill(2, -1, -1, 0) at place " + place, x.fill(2, -1, -1, 0), place);
            checks.sameState("no byte at place " + place, x, 2, y, 2);
        }
    }

    /** 2000 bytes 0, 1 .. and so on; the digest is that of the program behind Known.MIXED_A5_AT_135. */
    @Says("n 0 .. 2000.")
    static void nIs2000(Checks checks) {
        KeccakLanes x = new KeccakLanes();
        checks.due("fill(2, 0, 1, 2000)", x.fill(2, 0, 1, 2000), 96);
        String digest = "d62db994bde649222dd28a4bac1e3b77ff9fc40602a46694c133528af217f4a2";
        for (int part = 0; part < 4; part++) {
            checks.due("digest(2, " + part + ")", x.digest(2, part), Known.part(digest, part));
        }
    }

    @Says("n 0 .. 2000.")
    static void everyNIsThatManyBytes(Checks checks) {
        for (int n = 0; n <= 2000; n++) {
            compare(checks, 11, 13, n, 0);
        }
    }

    @Says("What is thrown: IllegalArgumentException: a number out of range.")
    static void sAndNOutOfRangeAtOnce(Checks checks) {
        checks.refusedTwice("fill(s, 1, 1, n)", 7, 2000, (x, s, n) -> x.fill(s, 1, 1, n));
    }

    @Says("each the lowest 8 bits of v + its number (0 ..) times step")
    static void byteNumber0IsV(Checks checks) {
        KeccakLanes x = new KeccakLanes();
        checks.due("fill(3, 0x5A, 0x33, 1)", x.fill(3, 0x5A, 0x33, 1), 1);
        checks.onlyLane("one byte", x, 3, 0, 0x5AL);
    }

    @Says("each the lowest 8 bits of v + its number (0 ..) times step")
    static void past255(Checks checks) {
        KeccakLanes x = new KeccakLanes();
        checks.due("fill(3, 250, 3, 9)", x.fill(3, 250, 3, 9), 9);
        checks.due("lane(3, 0)", x.lane(3, 0), 0x0F0C09060300FDFAL);
        checks.due("lane(3, 1)", x.lane(3, 1), 0x12L);
        compare(checks, 250, 3, 300, 0);
    }

    @Says("each the lowest 8 bits of v + its number (0 ..) times step")
    static void stepIs0(Checks checks) {
        firstLane(checks, 0x1FF, 0, 0xFFFFFFFFFFFFFFFFL);
    }

    @Says("each the lowest 8 bits of v + its number (0 ..) times step")
    static void vNegative(Checks checks) {
        firstLane(checks, -1, 0, 0xFFFFFFFFFFFFFFFFL);
        firstLane(checks, -3, 1, 0x0403020100FFFEFDL);
        firstLane(checks, -129, 1, 0x868584838281807FL);
        firstLane(checks, -256, 1, 0x0706050403020100L);
    }

    @Says("each the lowest 8 bits of v + its number (0 ..) times step")
    static void stepNegative(Checks checks) {
        firstLane(checks, 2, -1, 0xFBFCFDFEFF000102L);
        firstLane(checks, 0, -128, 0x8000800080008000L);
        firstLane(checks, 7, -256, 0x0707070707070707L);
    }

    @Says("each the lowest 8 bits of v + its number (0 ..) times step")
    static void vAndStepNegative(Checks checks) {
        firstLane(checks, -1, -1, 0xF8F9FAFBFCFDFEFFL);
        firstLane(checks, -255, -257, 0xFAFBFCFDFEFF0001L);
    }

    @Says("each the lowest 8 bits of v + its number (0 ..) times step")
    static void smallestIntAsV(Checks checks) {
        firstLane(checks, Integer.MIN_VALUE, 1, 0x0706050403020100L);
        firstLane(checks, Integer.MIN_VALUE, 0, 0L);
    }

    @Says("each the lowest 8 bits of v + its number (0 ..) times step")
    static void largestIntAsV(Checks checks) {
        firstLane(checks, Integer.MAX_VALUE, 0, 0xFFFFFFFFFFFFFFFFL);
        firstLane(checks, Integer.MAX_VALUE, -1, 0xF8F9FAFBFCFDFEFFL);
    }

    @Says("each the lowest 8 bits of v + its number (0 ..) times step")
    static void smallestIntAsStep(Checks checks) {
        firstLane(checks, 0x21, Integer.MIN_VALUE, 0x2121212121212121L);
        firstLane(checks, 0x21, Integer.MIN_VALUE + 1, 0x2827262524232221L);
    }

    @Says("each the lowest 8 bits of v + its number (0 ..) times step")
    static void largestIntAsStep(Checks checks) {
        firstLane(checks, 0x21, Integer.MAX_VALUE, 0x1A1B1C1D1E1F2021L);
        firstLane(checks, 0x21, Integer.MAX_VALUE - 1, 0x131517191B1D1F21L);
    }

    @Says("each the lowest 8 bits of v + its number (0 ..) times step")
    static void sumBeyondAnInt(Checks checks) {
        firstLane(checks, Integer.MAX_VALUE, 1, 0x06050403020100FFL);
        firstLane(checks, Integer.MIN_VALUE, -1, 0xF9FAFBFCFDFEFF00L);
        compare(checks, Integer.MAX_VALUE - 1000, 1, 2000, 0);
        compare(checks, Integer.MIN_VALUE + 1000, -1, 2000, 0);
    }

    /** 1,074,263 times 1999 is the first product of the last number that an int can't hold. */
    @Says("each the lowest 8 bits of v + its number (0 ..) times step")
    static void productBeyondAnInt(Checks checks) {
        compare(checks, 0, 1_074_262, 2000, 0);
        compare(checks, 0, 1_074_263, 2000, 0);
        compare(checks, 0, -1_074_280, 2000, 0);
        compare(checks, 0, Integer.MAX_VALUE, 2000, 0);
        compare(checks, 0, Integer.MIN_VALUE + 1, 2000, 0);
    }

    @Says("each the lowest 8 bits of v + its number (0 ..) times step")
    static void sumAndProductBeyondAnInt(Checks checks) {
        int[] numbers = {
            Integer.MIN_VALUE, Integer.MIN_VALUE + 77, -1_000_003, -257, -256, -255, -1, 0, 1, 127, 128, 255, 256,
            257, 1_000_003, Integer.MAX_VALUE - 5, Integer.MAX_VALUE
        };
        for (int v : numbers) {
            for (int step : numbers) {
                compare(checks, v, step, 300, 3);
                compare(checks, v, step, 2000, 0);
            }
        }
    }

    @Says("Answers the place.")
    static void as136IsReachedAndPassed(Checks checks) {
        int[] counts = {1, 2, 135, 136, 137, 271, 272, 273, 1904, 1999, 2000};
        for (int n : counts) {
            for (int place = 0; place < 136; place++) {
                KeccakLanes x = new KeccakLanes();
                x.fill(4, 9, 0, place);
                checks.due("fill of " + n + " at place " + place, x.fill(4, 200, 1, n), (place + n) % 136);
            }
        }
    }

    @Says("n bytes are taken in")
    static void atEveryPlace(Checks checks) {
        int[] counts = {0, 1, 135, 136, 137, 271, 272, 273, 1999, 2000};
        for (int n : counts) {
            for (int place = 0; place < 136; place++) {
                compare(checks, 200, 1, n, place);
            }
        }
    }

    @Says("n bytes are taken in")
    static void sameAsTaken(Checks checks) {
        KeccakLanes x = new KeccakLanes();
        KeccakLanes y = new KeccakLanes();
        x.fill(0, 30, 7, 290);
        for (int i = 0; i < 290; i++) {
            y.take(0, 30 + 7L * i, 1);
        }
        checks.sameState("filled and taken", x, 0, y, 0);
    }

    @Says("n bytes are taken in")
    static void otherStatesStay(Checks checks) {
        checks.othersStay("fill(s, 5, 7, 400)", (x, s) -> x.fill(s, 5, 7, 400));
    }

    private static void firstLane(Checks checks, int v, int step, long due) {
        KeccakLanes x = new KeccakLanes();
        String what = "fill(6, " + v + ", " + step + ", 8)";
        checks.due(what, x.fill(6, v, step, 8), 8);
        checks.onlyLane(what, x, 6, 0, due);
        compare(checks, v, step, 2000, 0);
    }

    private static void compare(Checks checks, int v, int step, int n, int place) {
        KeccakLanes x = new KeccakLanes();
        Model m = new Model();
        x.fill(4, 9, 0, place);
        m.fill(4, 9, 0, place);
        for (int i = 0; i < n; i++) {
            m.take(4, exactByte(v, step, i), 1);
        }
        String what = "fill(4, " + v + ", " + step + ", " + n + ") at place " + place;
        checks.due(what, x.fill(4, v, step, n), m.take(4, 0L, 0));
        checks.sameState(what, x, m, 4);
    }

    /** Numbers without an end, so that nothing wraps round before the lowest 8 bits are taken. */
    private static long exactByte(int v, int step, int number) {
        BigInteger product = BigInteger.valueOf(number).multiply(BigInteger.valueOf(step));
        return BigInteger.valueOf(v).add(product).mod(BigInteger.valueOf(256)).longValue();
    }
}
