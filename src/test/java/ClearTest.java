/** Promise 2: clear. */
public final class ClearTest {
    public static void main(String[] args) {
        Checks checks = new Checks();
        for (int s = 0; s < Checks.STATES; s++) {
            KeccakLanes x = Checks.busy();
            x.clear(s);
            checks.sameState("clear(" + s + ")", x, s, new KeccakLanes(), 0);
            checks.sameStatesBut("clear(" + s + "), the others", s, x, Checks.busy());
        }
        clearedAtTheLastPlace(checks);
        clearedTwice(checks);
        checks.ranges("clear(s)", 7, (x, s) -> x.clear(s));
        checks.end();
    }

    private static void clearedAtTheLastPlace(Checks checks) {
        KeccakLanes x = new KeccakLanes();
        x.mix(4);
        x.fill(4, 255, 0, 135);
        x.clear(4);
        checks.sameStates("clear(4) at place 135", x, new KeccakLanes());
        checks.due("take after clear", x.take(4, 0x77L, 1), 1);
        checks.due("lane after clear and take", x.lane(4, 0), 0x77L);
    }

    private static void clearedTwice(Checks checks) {
        KeccakLanes x = new KeccakLanes();
        x.clear(7);
        x.clear(7);
        checks.sameStates("clear(7) of what is clear", x, new KeccakLanes());
    }
}
