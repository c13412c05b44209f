/** Promise 3: take. */
public final class TakeTest {
    private static final long BYTES = 0xF1E2D3C4B5A69788L;

    public static void main(String[] args) {
        Checks checks = new Checks();
        lowestBytesAlone(checks);
        bytesGoOverLanes(checks);
        bytesAreJoinedWithWhatIsThere(checks);
        everyPlaceAndLength(checks);
        mixedAtTheEnd(checks);
        for (int s = 0; s < Checks.STATES; s++) {
            KeccakLanes x = Checks.busy();
            x.take(s, BYTES, 8);
            checks.sameStatesBut("take(" + s + ", ..), the others", s, x, Checks.busy());
        }
        checks.ranges("take(s, v, 3)", 7, (x, s) -> x.take(s, BYTES, 3));
        checks.ranges("take(s, v, 0)", 7, (x, s) -> x.take(s, BYTES, 0));
        checks.ranges("take(3, v, n)", 8, (x, n) -> x.take(3, BYTES, n));
        checks.end();
    }

    private static void lowestBytesAlone(Checks checks) {
        long[] due = {
            0L, 0x88L, 0x9788L, 0xA69788L, 0xB5A69788L, 0xC4B5A69788L, 0xD3C4B5A69788L, 0xE2D3C4B5A69788L, BYTES
        };
        for (int n = 0; n <= 8; n++) {
            KeccakLanes x = new KeccakLanes();
            checks.due("take(1, v, " + n + ")", x.take(1, BYTES, n), n);
            checks.due("lane(1, 0) after " + n + " bytes", x.lane(1, 0), due[n]);
            checks.due("lane(1, 1) after " + n + " bytes", x.lane(1, 1), 0L);
        }
    }

    private static void bytesGoOverLanes(Checks checks) {
        KeccakLanes x = new KeccakLanes();
        checks.due("take of 5", x.take(0, BYTES, 5), 5);
        checks.due("take of 8 over two lanes", x.take(0, -1L, 8), 13);
        checks.due("lane 0", x.lane(0, 0), 0xFFFFFFC4B5A69788L);
        checks.due("lane 1", x.lane(0, 1), 0x000000FFFFFFFFFFL);
    }

    private static void bytesAreJoinedWithWhatIsThere(Checks checks) {
        KeccakLanes x = new KeccakLanes();
        x.mix(2);
        long before = x.lane(2, 0);
        x.take(2, BYTES, 8);
        checks.due("a lane of a mixed state, joined", x.lane(2, 0), before ^ BYTES);
    }

    private static void everyPlaceAndLength(Checks checks) {
        for (int place = 0; place < 136; place++) {
            for (int n = 0; n <= 8; n++) {
                KeccakLanes x = new KeccakLanes();
                Model m = new Model();
                x.fill(6, 1, 3, place);
                m.fill(6, 1, 3, place);
                String what = "take(6, v, " + n + ") at place " + place;
                checks.due(what, x.take(6, BYTES, n), (place + n) % 136);
                m.take(6, BYTES, n);
                for (int i = 0; i < Checks.LANES; i++) {
                    checks.due(what + ": lane " + i, x.lane(6, i), m.lane(6, i));
                }
            }
        }
    }

    private static void mixedAtTheEnd(Checks checks) {
        KeccakLanes x = new KeccakLanes();
        KeccakLanes y = new KeccakLanes();
        x.fill(0, 0, 0, 134);
        checks.due("take of 1 to place 135", x.take(0, 0L, 1), 135);
        checks.due("lane 24 before the end", x.lane(0, 24), 0L);
        checks.due("take of the last byte", x.take(0, 0L, 1), 0);
        y.mix(0);
        checks.sameState("136 bytes 0", x, 0, y, 0);
    }
}
