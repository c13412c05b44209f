/** What the tests of the project share: counting wrong answers, and comparing whole objects. */
final class Checks {
    static final int STATES = 8;
    static final int LANES = 25;

    /** A call whose number under test is handed in. */
    interface NumberedCall {
        void on(KeccakLanes x, int number);
    }

    private int wrong = 0;

    void due(String what, long got, long want) {
        if (got != want) {
            wrong++;
            System.out.println(what + " answered " + got + ", due is " + want);
        }
    }

    void isTrue(String what, boolean holds) {
        due(what + " (1 holds, 0 does not)", holds ? 1 : 0, 1);
    }

    /** Eight states that differ in their lanes and in their places. */
    static KeccakLanes busy() {
        KeccakLanes x = new KeccakLanes();
        for (int s = 0; s < STATES; s++) {
            x.fill(s, 17 * s + 3, 2 * s + 1, 40 * s + 5);
        }
        return x;
    }

    static int place(KeccakLanes x, int s) {
        return x.take(s, 0L, 0);
    }

    void sameState(String what, KeccakLanes got, int s, KeccakLanes want, int t) {
        for (int i = 0; i < LANES; i++) {
            due(what + ": lane(" + s + ", " + i + ")", got.lane(s, i), want.lane(t, i));
        }
        due(what + ": place of " + s, place(got, s), place(want, t));
    }

    void sameStates(String what, KeccakLanes got, KeccakLanes want) {
        for (int s = 0; s < STATES; s++) {
            sameState(what, got, s, want, s);
        }
    }

    void sameStatesBut(String what, int but, KeccakLanes got, KeccakLanes want) {
        for (int s = 0; s < STATES; s++) {
            if (s != but) {
                sameState(what, got, s, want, s);
            }
        }
    }

    /** The call is refused for numbers on both sides of 0 .. last, and each time nothing changes. */
    void refusedOutside(String what, int last, NumberedCall call) {
        int[] numbers = {Integer.MIN_VALUE, -256, -8, -1, last + 1, last + 2, last + 256, Integer.MAX_VALUE};
        for (int number : numbers) {
            KeccakLanes x = busy();
            String thrown = "nothing";
            try {
                call.on(x, number);
            } catch (RuntimeException e) {
                thrown = e.getClass().getName();
            }
            String run = what + " with " + number;
            isTrue(run + " throws IllegalArgumentException, threw " + thrown,
                thrown.equals("java.lang.IllegalArgumentException"));
            sameStates(run + ", afterwards", x, busy());
        }
    }

    /** The call is taken for every number of 0 .. last. */
    void takenInside(String what, int last, NumberedCall call) {
        for (int number = 0; number <= last; number++) {
            String thrown = "nothing";
            try {
                call.on(busy(), number);
            } catch (RuntimeException e) {
                thrown = e.getClass().getName();
            }
            isTrue(what + " with " + number + " throws nothing, threw " + thrown, thrown.equals("nothing"));
        }
    }

    /** The number under test is good from 0 to last and refused on both sides. */
    void ranges(String what, int last, NumberedCall call) {
        takenInside(what, last, call);
        refusedOutside(what, last, call);
    }

    void end() {
        if (wrong != 0) {
            System.out.println(wrong + " answers are not as due");
            System.exit(1);
        }
    }
}
