/** Promise 7: lane. */
public final class LaneTest {
    public static void main(String[] args) {
        Checks checks = new Checks();
        lanesInTheOrderOfTheirBytes(checks);
        highLanesStayUntilMixed(checks);
        everyLaneOfEveryState(checks);
        lookingChangesNothing(checks);
        checks.ranges("lane(s, 0)", 7, (x, s) -> x.lane(s, 0));
        checks.ranges("lane(s, 24)", 7, (x, s) -> x.lane(s, 24));
        checks.ranges("lane(0, i)", 24, (x, i) -> x.lane(0, i));
        checks.ranges("lane(7, i)", 24, (x, i) -> x.lane(7, i));
        checks.end();
    }

    private static void lanesInTheOrderOfTheirBytes(Checks checks) {
        KeccakLanes x = new KeccakLanes();
        for (int i = 0; i < 16; i++) {
            x.take(5, -1000L - i, 8);
        }
        x.take(5, -1016L, 7);
        for (int i = 0; i < 16; i++) {
            checks.due("lane(5, " + i + ")", x.lane(5, i), -1000L - i);
        }
        checks.due("lane(5, 16)", x.lane(5, 16), -1016L & 0x00FFFFFFFFFFFFFFL);
    }

    private static void highLanesStayUntilMixed(Checks checks) {
        KeccakLanes x = new KeccakLanes();
        x.fill(1, 255, 0, 135);
        for (int i = 17; i < Checks.LANES; i++) {
            checks.due("lane(1, " + i + ") at place 135", x.lane(1, i), 0L);
        }
    }

    private static void everyLaneOfEveryState(Checks checks) {
        KeccakLanes x = new KeccakLanes();
        Model m = new Model();
        for (int s = 0; s < Checks.STATES; s++) {
            x.fill(s, s, 1, 150 + s);
            m.fill(s, s, 1, 150 + s);
        }
        for (int s = 0; s < Checks.STATES; s++) {
            for (int i = 0; i < Checks.LANES; i++) {
                checks.due("lane(" + s + ", " + i + ")", x.lane(s, i), m.lane(s, i));
            }
        }
    }

    private static void lookingChangesNothing(Checks checks) {
        KeccakLanes x = Checks.busy();
        for (int i = 0; i < Checks.LANES; i++) {
            x.lane(2, i);
        }
        checks.sameStates("after looking", x, Checks.busy());
    }
}
