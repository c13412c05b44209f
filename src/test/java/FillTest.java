/** Promise 4: fill. */
public final class FillTest {
    public static void main(String[] args) {
        Checks checks = new Checks();
        firstBytes(checks);
        everyCount(checks);
        numbersThatWrap(checks);
        sameAsTaken(checks);
        for (int s = 0; s < Checks.STATES; s++) {
            KeccakLanes x = Checks.busy();
            x.fill(s, 5, 7, 400);
            checks.sameStatesBut("fill(" + s + ", ..), the others", s, x, Checks.busy());
        }
        checks.ranges("fill(s, 1, 1, 140)", 7, (x, s) -> x.fill(s, 1, 1, 140));
        checks.ranges("fill(s, 1, 1, 0)", 7, (x, s) -> x.fill(s, 1, 1, 0));
        checks.ranges("fill(5, 1, 1, n)", 2000, (x, n) -> x.fill(5, 1, 1, n));
        checks.end();
    }

    private static void firstBytes(Checks checks) {
        KeccakLanes x = new KeccakLanes();
        checks.due("fill(3, 250, 3, 9)", x.fill(3, 250, 3, 9), 9);
        checks.due("lane(3, 0)", x.lane(3, 0), 0x0F0C09060300FDFAL);
        checks.due("lane(3, 1)", x.lane(3, 1), 0x12L);
        checks.due("fill(3, 77, 5, 0)", x.fill(3, 77, 5, 0), 9);
        checks.due("lane(3, 1) after none", x.lane(3, 1), 0x12L);
        checks.due("fill(3, -1, -1, 3)", x.fill(3, -1, -1, 3), 12);
        checks.due("lane(3, 1) after negative numbers", x.lane(3, 1), 0xFDFEFF12L);
    }

    private static void everyCount(Checks checks) {
        for (int n = 0; n <= 2000; n++) {
            compare(checks, 11, 13, n, 0);
        }
        int[] edges = {0, 1, 135, 136, 137, 271, 272, 273, 1999, 2000};
        for (int n : edges) {
            for (int place = 0; place < 136; place++) {
                compare(checks, 200, 1, n, place);
            }
        }
    }

    private static void numbersThatWrap(Checks checks) {
        int[] numbers = {
            Integer.MIN_VALUE, Integer.MIN_VALUE + 77, -1_000_003, -257, -256, -255, -1, 0, 1, 127, 128, 255, 256,
            257, 1_000_003, Integer.MAX_VALUE - 5, Integer.MAX_VALUE
        };
        for (int v : numbers) {
            for (int step : numbers) {
                compare(checks, v, step, 300, 3);
            }
        }
    }

    private static void compare(Checks checks, int v, int step, int n, int place) {
        KeccakLanes x = new KeccakLanes();
        Model m = new Model();
        x.fill(4, 9, 0, place);
        m.fill(4, 9, 0, place);
        String what = "fill(4, " + v + ", " + step + ", " + n + ") at place " + place;
        checks.due(what, x.fill(4, v, step, n), m.fill(4, v, step, n));
        for (int i = 0; i < Checks.LANES; i++) {
            checks.due(what + ": lane " + i, x.lane(4, i), m.lane(4, i));
        }
    }

    private static void sameAsTaken(Checks checks) {
        KeccakLanes x = new KeccakLanes();
        KeccakLanes y = new KeccakLanes();
        x.fill(0, 30, 7, 290);
        for (int i = 0; i < 290; i++) {
            y.take(0, 30 + 7L * i, 1);
        }
        checks.sameState("filled and taken", x, 0, y, 0);
    }
}
