/** Promise 1: a new object. */
public final class NewObjectTest {
    public static void main(String[] args) throws Exception {
        Sentences.test(NewObjectTest.class);
    }

    @Says("all LANES and places 0 at first.")
    static void everyLaneIs0(Checks checks) {
        KeccakLanes x = new KeccakLanes();
        for (int s = 0; s < Checks.STATES; s++) {
            checks.lanesAre("a new object", x, s, new long[Checks.LANES]);
        }
    }

    @Says("all LANES and places 0 at first.")
    static void everyPlaceIs0(Checks checks) {
        KeccakLanes x = new KeccakLanes();
        for (int s = 0; s < Checks.STATES; s++) {
            checks.due("take(" + s + ", 9, 0)", x.take(s, 9L, 0), 0);
            checks.due("fill(" + s + ", 9, 9, 0)", x.fill(s, 9, 9, 0), 0);
        }
    }

    @Says("`KeccakLanes()`: As said.")
    static void everyStateHasTakenInNothing(Checks checks) {
        KeccakLanes x = new KeccakLanes();
        for (int s = 0; s < Checks.STATES; s++) {
            for (int part = 0; part < 4; part++) {
                checks.due("digest(" + s + ", " + part + ")", x.digest(s, part), Known.part(Known.OF_NOTHING, part));
            }
        }
    }

    @Says("`KeccakLanes()`: As said.")
    static void newBesideABusyObject(Checks checks) {
        KeccakLanes busy = Checks.busy();
        busy.digest(3, 2);
        busy.mix(5);
        KeccakLanes x = new KeccakLanes();
        checks.sameStates("a new object beside a busy one", x, new Model());
    }

    @Says("`KeccakLanes()`: As said.")
    static void busyBesideANewObject(Checks checks) {
        KeccakLanes x = Checks.busy();
        KeccakLanes y = new KeccakLanes();
        y.fill(2, 1, 1, 500);
        y.copy(2, 6);
        y.clear(0);
        checks.sameStates("a busy object beside a new one that is used", x, Checks.busy());
    }
}
