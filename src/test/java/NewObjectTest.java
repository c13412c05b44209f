/** Promise 1: a new object has all lanes and places 0, whatever other objects have done. */
public final class NewObjectTest {
    public static void main(String[] args) {
        Checks checks = new Checks();
        allZero(checks, "the first object", new KeccakLanes());
        KeccakLanes other = Checks.busy();
        other.digest(3, 2);
        other.mix(5);
        allZero(checks, "an object beside a busy one", new KeccakLanes());
        objectsAreApart(checks);
        checks.end();
    }

    private static void allZero(Checks checks, String what, KeccakLanes x) {
        for (int s = 0; s < Checks.STATES; s++) {
            for (int i = 0; i < Checks.LANES; i++) {
                checks.due(what + ": lane(" + s + ", " + i + ")", x.lane(s, i), 0L);
            }
            checks.due(what + ": fill(" + s + ", 9, 9, 0)", x.fill(s, 9, 9, 0), 0);
            checks.due(what + ": take(" + s + ", 9, 0)", x.take(s, 9L, 0), 0);
            checks.due(what + ": digest(" + s + ", 0)", x.digest(s, 0), 0xc5d2460186f7233cL);
        }
    }

    private static void objectsAreApart(Checks checks) {
        KeccakLanes x = Checks.busy();
        KeccakLanes y = new KeccakLanes();
        y.fill(2, 1, 1, 500);
        y.copy(2, 6);
        y.clear(0);
        checks.sameStates("an object beside one that is used", x, Checks.busy());
    }
}
