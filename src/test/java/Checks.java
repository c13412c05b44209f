/** What the tests of the project share: counting wrong answers, and comparing whole objects. */
final class Checks {
    static final int STATES = 8;
    static final int LANES = 25;

    /** Too small for every number that has a range; some would be good ones behind a mask or a remainder. */
    private static final int[] TOO_SMALL = {
        Integer.MIN_VALUE, Integer.MIN_VALUE + 1, -65536, -2000, -256, -25, -9, -8, -4, -2, -1
    };

    /** A call on an object that is handed in. */
    interface Call {
        void on(KeccakLanes x);
    }

    /** A call whose number under test is handed in. */
    interface NumberedCall {
        void on(KeccakLanes x, int number);
    }

    /** A call with two numbers under test. */
    interface PairedCall {
        void on(KeccakLanes x, int a, int b);
    }

    private int made = 0;
    private int wrong = 0;

    int made() {
        return made;
    }

    int wrong() {
        return wrong;
    }

    void due(String what, long got, long want) {
        made++;
        if (got != want) {
            wrong++;
            System.out.println(what + " answered " + got + ", due is " + want);
        }
    }

    void isTrue(String what, boolean holds) {
        due(what + " (1 holds, 0 does not)", holds ? 1 : 0, 1);
    }

    /**
     * Eight states that differ in their lanes and in their places, with these ends among them: 2 is at place 135,
     * 3 behind a full 136 at place 0, 4 mixed by hand at place 8, 6 at place 7 behind two times 136.
     */
    static KeccakLanes busy() {
        int[] counts = {5, 45, 135, 136, 8, 205, 279, 285};
        KeccakLanes x = new KeccakLanes();
        for (int s = 0; s < STATES; s++) {
            x.fill(s, 17 * s + 3, 2 * s + 1, counts[s]);
        }
        x.mix(4);
        return x;
    }

    static int place(KeccakLanes x, int s) {
        return x.take(s, 0L, 0);
    }

    void lanesAre(String what, KeccakLanes x, int s, long[] due) {
        for (int i = 0; i < LANES; i++) {
            due(what + ": lane(" + s + ", " + i + ")", x.lane(s, i), due[i]);
        }
    }

    /** All lanes are 0 but one. */
    void onlyLane(String what, KeccakLanes x, int s, int lane, long value) {
        long[] due = new long[LANES];
        due[lane] = value;
        lanesAre(what, x, s, due);
    }

    void sameState(String what, KeccakLanes got, int s, KeccakLanes want, int t) {
        for (int i = 0; i < LANES; i++) {
            due(what + ": lane(" + s + ", " + i + ")", got.lane(s, i), want.lane(t, i));
        }
        due(what + ": place of " + s, place(got, s), place(want, t));
    }

    void sameState(String what, KeccakLanes got, Model want, int s) {
        for (int i = 0; i < LANES; i++) {
            due(what + ": lane(" + s + ", " + i + ")", got.lane(s, i), want.lane(s, i));
        }
        due(what + ": place of " + s, place(got, s), want.take(s, 0L, 0));
    }

    void sameStates(String what, KeccakLanes got, KeccakLanes want) {
        for (int s = 0; s < STATES; s++) {
            sameState(what, got, s, want, s);
        }
    }

    void sameStates(String what, KeccakLanes got, Model want) {
        for (int s = 0; s < STATES; s++) {
            sameState(what, got, want, s);
        }
    }

    /** The call is taken for each state, and changes no state but that one. */
    void othersStay(String what, NumberedCall call) {
        for (int s = 0; s < STATES; s++) {
            KeccakLanes x = busy();
            call.on(x, s);
            KeccakLanes before = busy();
            for (int t = 0; t < STATES; t++) {
                if (t != s) {
                    sameState(what + " with " + s, x, t, before, t);
                }
            }
        }
    }

    /** The call throws IllegalArgumentException itself, and every lane and place of all states is as it was. */
    void refused(String what, Call call) {
        refusedOn(what + " on a busy object", busy(), busy(), call);
        refusedOn(what + " on a new object", new KeccakLanes(), new KeccakLanes(), call);
    }

    private void refusedOn(String what, KeccakLanes x, KeccakLanes before, Call call) {
        String thrown = thrownBy(x, call);
        isTrue(what + " throws IllegalArgumentException, threw " + thrown,
            thrown.equals("java.lang.IllegalArgumentException"));
        sameStates(what + ", afterwards", x, before);
    }

    static String thrownBy(KeccakLanes x, Call call) {
        try {
            call.on(x);
        } catch (RuntimeException e) {
            return e.getClass().getName();
        }
        return "nothing";
    }

    void refusedBelow(String what, NumberedCall call) {
        for (int number : TOO_SMALL) {
            refused(what + " with " + number, x -> call.on(x, number));
        }
    }

    void refusedAbove(String what, int last, NumberedCall call) {
        for (int number : tooLarge(last)) {
            refused(what + " with " + number, x -> call.on(x, number));
        }
    }

    private static int[] tooLarge(int last) {
        return new int[] {
            last + 1, last + 2, last + 8, last + 256, last + 2048, 1 << 16, 1 << 30, Integer.MAX_VALUE - 1,
            Integer.MAX_VALUE
        };
    }

    /** The call is refused for every pair of numbers that are both out of 0 .. lastA and 0 .. lastB. */
    void refusedTwice(String what, int lastA, int lastB, PairedCall call) {
        int[] as = {Integer.MIN_VALUE, -1, lastA + 1, Integer.MAX_VALUE};
        int[] bs = {Integer.MIN_VALUE, -1, lastB + 1, Integer.MAX_VALUE};
        for (int a : as) {
            for (int b : bs) {
                refused(what + " with " + a + " and " + b, x -> call.on(x, a, b));
            }
        }
    }

    /** The call is taken for every number of 0 .. last, both ends among them. */
    void takenInside(String what, int last, NumberedCall call) {
        for (int number = 0; number <= last; number++) {
            int n = number;
            String thrown = thrownBy(busy(), x -> call.on(x, n));
            isTrue(what + " with " + number + " throws nothing, threw " + thrown, thrown.equals("nothing"));
        }
    }

    void end() {
        if (wrong != 0) {
            System.out.println(wrong + " answers are not as due");
            System.exit(1);
        }
    }
}
