/** Promise 5: copy. */
public final class CopyTest {
    public static void main(String[] args) {
        Checks checks = new Checks();
        for (int s = 0; s < Checks.STATES; s++) {
            for (int to = 0; to < Checks.STATES; to++) {
                KeccakLanes x = Checks.busy();
                x.copy(s, to);
                String what = "copy(" + s + ", " + to + ")";
                checks.sameState(what, x, to, Checks.busy(), s);
                checks.sameStatesBut(what + ", the others", to, x, Checks.busy());
            }
        }
        copiesGoOnApart(checks);
        copyOfAClearState(checks);
        checks.ranges("copy(s, 2)", 7, (x, s) -> x.copy(s, 2));
        checks.ranges("copy(2, to)", 7, (x, to) -> x.copy(2, to));
        checks.refusedOutside("copy(s, s)", 7, (x, s) -> x.copy(s, s));
        checks.end();
    }

    private static void copiesGoOnApart(Checks checks) {
        KeccakLanes x = Checks.busy();
        x.copy(1, 6);
        x.fill(1, 1, 1, 200);
        checks.sameState("the copy, after the first went on", x, 6, Checks.busy(), 1);
        x.copy(3, 5);
        x.clear(5);
        checks.sameState("the first, after the copy was cleared", x, 3, Checks.busy(), 3);
        x.copy(4, 0);
        x.mix(0);
        x.take(0, -1L, 8);
        checks.sameState("the first, after the copy went on", x, 4, Checks.busy(), 4);
    }

    private static void copyOfAClearState(Checks checks) {
        KeccakLanes x = Checks.busy();
        x.clear(0);
        x.copy(0, 7);
        checks.sameState("a copy of a clear state", x, 7, new KeccakLanes(), 0);
    }
}
