import java.util.Arrays;

/** The section "Terms": bytes taken in, the wrap-around of the place, and how a state is mixed. */
public final class TermsTest {
    public static void main(String[] args) throws Exception {
        Sentences.test(TermsTest.class);
    }

    @Says("a place 0 .. 135")
    static void placeGoesFrom0To135AndRound(Checks checks) {
        KeccakLanes x = new KeccakLanes();
        checks.due("the first place", Checks.place(x, 3), 0);
        for (int i = 1; i <= 500; i++) {
            checks.due("the place behind byte " + i, x.take(3, i, 1), i % 136);
        }
    }

    @Says("(of lane place / 8, its bits 8 (place mod 8) on)")
    static void byteAtPlace0(Checks checks) {
        byteAlone(checks, 0, 0, 0xA5L);
    }

    @Says("(of lane place / 8, its bits 8 (place mod 8) on)")
    static void byteAtPlace7(Checks checks) {
        byteAlone(checks, 7, 0, 0xA500000000000000L);
    }

    @Says("(of lane place / 8, its bits 8 (place mod 8) on)")
    static void byteAtPlace8(Checks checks) {
        byteAlone(checks, 8, 1, 0xA5L);
    }

    @Says("(of lane place / 8, its bits 8 (place mod 8) on)")
    static void byteAtPlaces127And128(Checks checks) {
        byteAlone(checks, 127, 15, 0xA500000000000000L);
        byteAlone(checks, 128, 16, 0xA5L);
    }

    @Says("(of lane place / 8, its bits 8 (place mod 8) on)")
    static void byteAtPlace134(Checks checks) {
        byteAlone(checks, 134, 16, 0x00A5000000000000L);
    }

    @Says("(of lane place / 8, its bits 8 (place mod 8) on)")
    static void byteAtPlace135(Checks checks) {
        KeccakLanes x = new KeccakLanes();
        x.fill(5, 0, 0, 135);
        checks.due("the place behind the byte at 135", x.take(5, 0xA5L, 1), 0);
        checks.lanesAre("the byte at 135, mixed", x, 5, Known.MIXED_A5_AT_135);
        KeccakLanes y = new KeccakLanes();
        checks.due("the place behind 17 lanes", takeLanes(y, 0xA500000000000000L), 0);
        checks.lanesAre("the same byte as the highest of lane 16", y, 5, Known.MIXED_A5_AT_135);
    }

    private static void byteAlone(Checks checks, int place, int lane, long value) {
        KeccakLanes x = new KeccakLanes();
        x.fill(5, 0, 0, place);
        checks.due("the place behind the byte at " + place, x.take(5, 0xA5L, 1), place + 1);
        checks.onlyLane("the byte at " + place, x, 5, lane, value);
    }

    /** Lanes 0 .. 15 are taken in as 0, lane 16 as the value. */
    private static int takeLanes(KeccakLanes x, long value) {
        for (int i = 0; i < 16; i++) {
            x.take(5, 0L, 8);
        }
        return x.take(5, value, 8);
    }

    @Says("is made the exclusive or with it, the place goes on")
    static void byteMeetsBitsThatAreThere(Checks checks) {
        for (int place = 0; place < 135; place++) {
            KeccakLanes x = new KeccakLanes();
            x.mix(1);
            x.fill(1, 0, 0, place);
            checks.due("the place behind a byte at " + place, x.take(1, 0xFFL, 1), place + 1);
            long[] due = Known.MIXED_ONCE.clone();
            due[place / 8] ^= 0xFFL << (8 * (place % 8));
            checks.lanesAre("a byte at " + place + " of a mixed state", x, 1, due);
        }
    }

    @Says("is made the exclusive or with it, the place goes on")
    static void byteMeetsBitsThatAreThereAtPlace135(Checks checks) {
        KeccakLanes x = new KeccakLanes();
        Model m = new Model();
        x.mix(1);
        m.mix(1);
        x.fill(1, 0, 0, 135);
        m.fill(1, 0, 0, 135);
        checks.due("the place behind the byte at 135", x.take(1, 0xFFL, 1), 0);
        m.take(1, 0xFFL, 1);
        checks.sameState("the byte at 135 of a mixed state", x, m, 1);
    }

    @Says("at 136 the STATE is MIXED, the place is 0")
    static void notMixedAt135(Checks checks) {
        KeccakLanes x = new KeccakLanes();
        checks.due("fill of 135", x.fill(0, 0, 0, 135), 135);
        checks.lanesAre("135 bytes 0", x, 0, new long[Checks.LANES]);
        KeccakLanes y = new KeccakLanes();
        y.fill(0, 255, 0, 135);
        long[] due = new long[Checks.LANES];
        Arrays.fill(due, 0, 16, -1L);
        due[16] = 0x00FFFFFFFFFFFFFFL;
        checks.lanesAre("135 bytes 255", y, 0, due);
    }

    @Says("at 136 the STATE is MIXED, the place is 0")
    static void mixedAt136ByOneByte(Checks checks) {
        KeccakLanes x = new KeccakLanes();
        x.fill(0, 0, 0, 135);
        checks.due("take of byte 136", x.take(0, 0L, 1), 0);
        checks.lanesAre("136 bytes 0", x, 0, Known.MIXED_ONCE);
    }

    @Says("at 136 the STATE is MIXED, the place is 0")
    static void mixedAt136InOneCall(Checks checks) {
        KeccakLanes x = new KeccakLanes();
        checks.due("fill of 136", x.fill(0, 0, 0, 136), 0);
        checks.lanesAre("136 bytes 0", x, 0, Known.MIXED_ONCE);
    }

    @Says("at 136 the STATE is MIXED, the place is 0")
    static void byteBehind136GoesToPlace0(Checks checks) {
        KeccakLanes x = new KeccakLanes();
        x.fill(0, 0, 0, 136);
        checks.due("take of byte 137", x.take(0, 0xA5L, 1), 1);
        long[] due = Known.MIXED_ONCE.clone();
        due[0] ^= 0xA5L;
        checks.lanesAre("byte 137", x, 0, due);
    }

    @Says("at 136 the STATE is MIXED, the place is 0")
    static void mixedInTheMidstOfATake(Checks checks) {
        KeccakLanes x = new KeccakLanes();
        x.fill(0, 0, 0, 132);
        checks.due("take of 8 at place 132", x.take(0, 0xA5B6C7D800000000L, 8), 4);
        long[] due = Known.MIXED_ONCE.clone();
        due[0] ^= 0xA5B6C7D8L;
        checks.lanesAre("four bytes before 136 and four behind", x, 0, due);
    }

    @Says("at 136 the STATE is MIXED, the place is 0")
    static void twiceTimes136InOneCall(Checks checks) {
        KeccakLanes x = new KeccakLanes();
        checks.due("fill of 272", x.fill(6, 0, 0, 272), 0);
        checks.lanesAre("272 bytes 0", x, 6, Known.MIXED_TWICE);
        KeccakLanes y = new KeccakLanes();
        checks.due("fill of 271", y.fill(6, 0, 0, 271), 135);
        checks.lanesAre("271 bytes 0", y, 6, Known.MIXED_ONCE);
    }

    @Says("at 136 the STATE is MIXED, the place is 0")
    static void manyTimes136InOneCall(Checks checks) {
        for (int times = 1; times <= 14; times++) {
            KeccakLanes x = new KeccakLanes();
            KeccakLanes byHand = new KeccakLanes();
            checks.due("fill of " + times + " times 136", x.fill(6, 0, 0, 136 * times), 0);
            for (int i = 0; i < times; i++) {
                byHand.mix(6);
            }
            checks.sameState(times + " times 136 bytes 0", x, 6, byHand, 6);
        }
    }

    @Says("at 136 the STATE is MIXED, the place is 0")
    static void onlyTheStateThatIsFullIsMixed(Checks checks) {
        KeccakLanes x = new KeccakLanes();
        for (int s = 0; s < Checks.STATES; s++) {
            x.fill(s, 0, 0, 135);
        }
        x.take(4, 0L, 1);
        for (int s = 0; s < Checks.STATES; s++) {
            checks.lanesAre("135 bytes 0 each, and one more for 4", x, s,
                s == 4 ? Known.MIXED_ONCE : new long[Checks.LANES]);
            checks.due("the place of " + s, Checks.place(x, s), s == 4 ? 0 : 135);
        }
    }

    @Says("MIXED, 24 times, i = 0 ..: with all at once in each step")
    static void everyBitOfAStateIsMixed(Checks checks) {
        for (int bit = 0; bit < 8 * 136; bit++) {
            KeccakLanes x = new KeccakLanes();
            Model m = new Model();
            x.fill(0, 0, 0, bit / 8);
            m.fill(0, 0, 0, bit / 8);
            x.take(0, 1L << (bit % 8), 1);
            m.take(0, 1L << (bit % 8), 1);
            x.mix(0);
            m.mix(0);
            checks.sameState("bit " + bit + " mixed", x, m, 0);
        }
    }

    /** Lanes at the edges of the square of 5 by 5, where x - 1, x + 1, x + 2 and 2 x + 3 y go round. */
    @Says("(all modulo 5)")
    static void lanesAtTheEdgesGoRound(Checks checks) {
        int[] edges = {0, 3, 4, 5, 8, 9, 10, 13, 14, 15, 16};
        for (int lane : edges) {
            KeccakLanes x = new KeccakLanes();
            Model m = new Model();
            x.fill(2, 0, 0, 8 * lane);
            m.fill(2, 0, 0, 8 * lane);
            x.take(2, 0x00F1E2D3C4B5A697L, 7);
            m.take(2, 0x00F1E2D3C4B5A697L, 7);
            x.mix(2);
            m.mix(2);
            checks.sameState("lane " + lane + " alone, mixed", x, m, 2);
        }
    }

    /** Behind the first mixing all 25 lanes have bits, those that no byte reaches too. */
    @Says("(all modulo 5)")
    static void allLanesGoRound(Checks checks) {
        KeccakLanes x = new KeccakLanes();
        x.mix(2);
        x.mix(2);
        checks.lanesAre("mixed twice", x, 2, Known.MIXED_TWICE);
    }

    @Says("r: 0 for 0, 0")
    static void lane0IsNotTurned(Checks checks) {
        checks.due("r 0, 0 of the model", Model.turns()[0][0], 0);
        for (int bit = 0; bit < 64; bit++) {
            KeccakLanes x = new KeccakLanes();
            Model m = new Model();
            x.take(7, 1L << bit, 8);
            m.take(7, 1L << bit, 8);
            x.mix(7);
            m.mix(7);
            checks.sameState("bit " + bit + " of lane 0, mixed", x, m, 7);
        }
    }

    /** From t = 10 on the number is 66 and more; the model is held to the published turns, the program to it. */
    @Says("(t + 1) (t + 2) / 2 modulo 64")
    static void turnsOf64AndMoreGoRound(Checks checks) {
        int[][] r = Model.turns();
        for (int lane = 0; lane < Checks.LANES; lane++) {
            checks.due("the model's turn of lane " + lane, r[lane % 5][lane / 5], Known.TURNS[lane]);
        }
        for (int lane = 0; lane < 17; lane++) {
            KeccakLanes x = new KeccakLanes();
            Model m = new Model();
            x.fill(7, 0, 0, 8 * lane);
            m.fill(7, 0, 0, 8 * lane);
            x.take(7, 0x0000000080000001L, 7);
            m.take(7, 0x0000000080000001L, 7);
            x.mix(7);
            m.mix(7);
            checks.sameState("two bits of lane " + lane + ", mixed", x, m, 7);
        }
    }

    /** The row goes 1, 2, .. 128 and then comes to 256 itself, the least that is changed. */
    @Says("times 2, and if that is 256 or more exclusive or 369")
    static void rowOfBitsAt256AndMore(Checks checks) {
        long[] constants = Model.constants();
        for (int i = 0; i < 24; i++) {
            checks.due("the model's constant " + i, constants[i], Known.CONSTANTS[i]);
        }
        KeccakLanes x = new KeccakLanes();
        Model m = new Model();
        for (int times = 1; times <= 10; times++) {
            x.mix(7);
            m.mix(7);
            checks.sameState("what the constants alone make, " + times + " times", x, m, 7);
        }
    }

    @Says("bits 2^k - 1, k 0 .. 6")
    static void constantsFromBit0ToBit63(Checks checks) {
        long all = 0;
        for (long constant : Model.constants()) {
            all |= constant;
        }
        checks.due("the bits that the model's constants have", all, 0x800000008000808BL);
        KeccakLanes x = new KeccakLanes();
        x.mix(0);
        checks.lanesAre("what the constants alone make", x, 0, Known.MIXED_ONCE);
    }

    @Says("STATES 0 .. 7")
    static void eightStatesThatAreApart(Checks checks) {
        KeccakLanes x = new KeccakLanes();
        for (int s = 0; s < Checks.STATES; s++) {
            checks.due("take(" + s + ", ..)", x.take(s, 0x1100L + s, s + 1), s + 1);
        }
        for (int s = 0; s < Checks.STATES; s++) {
            checks.onlyLane("its own bytes", x, s, 0, s == 0 ? 0L : 0x1100L + s);
            checks.due("the place of " + s, Checks.place(x, s), s + 1);
        }
    }
}
