/** Promise 6: mix. */
public final class MixTest {
    /** Keccak-f[1600] of the state 0, as its authors published it. */
    private static final long[] ONCE = {
        0xF1258F7940E1DDE7L, 0x84D5CCF933C0478AL, 0xD598261EA65AA9EEL, 0xBD1547306F80494DL, 0x8B284E056253D057L,
        0xFF97A42D7F8E6FD4L, 0x90FEE5A0A44647C4L, 0x8C5BDA0CD6192E76L, 0xAD30A6F71B19059CL, 0x30935AB7D08FFC64L,
        0xEB5AA93F2317D635L, 0xA9A6E6260D712103L, 0x81A57C16DBCF555FL, 0x43B831CD0347C826L, 0x01F22F1A11A5569FL,
        0x05E5635A21D9AE61L, 0x64BEFEF28CC970F2L, 0x613670957BC46611L, 0xB87C5A554FD00ECBL, 0x8C3EE88A1CCF32C8L,
        0x940C7922AE3A2614L, 0x1841F924A2C509E4L, 0x16F53526E70465C2L, 0x75F644E97F30A13BL, 0xEAF1FF7B5CECA249L
    };

    /** The same, twice. */
    private static final long[] TWICE = {
        0x2D5C954DF96ECB3CL, 0x6A332CD07057B56DL, 0x093D8D1270D76B6CL, 0x8A20D9B25569D094L, 0x4F9C4F99E5E7F156L,
        0xF957B9A2DA65FB38L, 0x85773DAE1275AF0DL, 0xFAF4F247C3D810F7L, 0x1F1B9EE6F79A8759L, 0xE4FECC0FEE98B425L,
        0x68CE61B6B9CE68A1L, 0xDEEA66C4BA8F974FL, 0x33C43D836EAFB1F5L, 0xE00654042719DBD9L, 0x7CF8A9F009831265L,
        0xFD5449A6BF174743L, 0x97DDAD33D8994B40L, 0x48EAD5FC5D0BE774L, 0xE3B8C8EE55B7B03CL, 0x91A0226E649E42E9L,
        0x900E3129E7BADD7BL, 0x202A9EC5FAA3CCE8L, 0x5B3402464E1C3DB6L, 0x609F4E62A44C1059L, 0x20D06CD26A8FBF5CL
    };

    public static void main(String[] args) {
        Checks checks = new Checks();
        for (int s = 0; s < Checks.STATES; s++) {
            KeccakLanes x = new KeccakLanes();
            x.mix(s);
            lanesAre(checks, "mix(" + s + ") once", x, s, ONCE);
            x.mix(s);
            lanesAre(checks, "mix(" + s + ") twice", x, s, TWICE);
        }
        othersStay(checks);
        placeStays(checks);
        everyBitCounts(checks);
        checks.ranges("mix(s)", 7, (x, s) -> x.mix(s));
        checks.end();
    }

    private static void lanesAre(Checks checks, String what, KeccakLanes x, int s, long[] due) {
        for (int i = 0; i < Checks.LANES; i++) {
            checks.due(what + ": lane " + i, x.lane(s, i), due[i]);
        }
    }

    private static void othersStay(Checks checks) {
        for (int s = 0; s < Checks.STATES; s++) {
            KeccakLanes x = Checks.busy();
            x.mix(s);
            checks.sameStatesBut("mix(" + s + "), the others", s, x, Checks.busy());
        }
    }

    private static void placeStays(Checks checks) {
        for (int place = 0; place < 136; place++) {
            KeccakLanes x = new KeccakLanes();
            x.fill(2, 0, 0, place);
            x.mix(2);
            checks.due("the place after mix at " + place, x.take(2, 0L, 0), place);
            checks.due("lane 0 after mix at " + place, x.lane(2, 0), ONCE[0]);
            x.take(2, 0xFFL, 1);
            int next = place / 8;
            if (place < 135) {
                checks.due("the byte taken in after mix at " + place, x.lane(2, next),
                    ONCE[next] ^ (0xFFL << (8 * (place % 8))));
            }
        }
    }

    private static void everyBitCounts(Checks checks) {
        for (int bit = 0; bit < 8 * 136; bit++) {
            KeccakLanes x = new KeccakLanes();
            Model m = new Model();
            x.fill(0, 0, 0, bit / 8);
            m.fill(0, 0, 0, bit / 8);
            x.take(0, 1L << (bit % 8), 1);
            m.take(0, 1L << (bit % 8), 1);
            x.mix(0);
            m.mix(0);
            for (int i = 0; i < Checks.LANES; i++) {
                checks.due("bit " + bit + " mixed: lane " + i, x.lane(0, i), m.lane(0, i));
            }
        }
    }
}
