/**
 * KECCAK-256 as Ethereum has it, over eight states that take bytes in piece by piece, are copied
 * and go on apart, and can be looked at in between.
 */
public final class KeccakLanes {
    private static final int STATES = 8;
    private static final int LANES = 25;
    private static final int PLACES = 136;
    private static final int ROUNDS = 24;
    private static final int MOST_TAKEN = 8;
    private static final int MOST_FILLED = 2000;
    private static final int DIGEST_PARTS = 4;

    /** One state more than callers see: digests are worked out on it, so that no call makes a row. */
    private static final int SPARE = STATES;

    /** By how much each lane is turned left, at x + 5 y. */
    private static final int[] TURNS = {
        0, 1, 62, 28, 27,
        36, 44, 6, 55, 20,
        3, 10, 43, 25, 39,
        41, 45, 15, 21, 8,
        18, 2, 61, 56, 14
    };

    /** Where each lane comes to, at x + 5 y: y + 5 ((2 x + 3 y) modulo 5). */
    private static final int[] TARGETS = {
        0, 10, 20, 5, 15,
        16, 1, 11, 21, 6,
        7, 17, 2, 12, 22,
        23, 8, 18, 3, 13,
        14, 24, 9, 19, 4
    };

    /** One for each round. These rows stand written out so that no object has to work them out again. */
    private static final long[] CONSTANTS = {
        0x0000000000000001L, 0x0000000000008082L, 0x800000000000808AL, 0x8000000080008000L,
        0x000000000000808BL, 0x0000000080000001L, 0x8000000080008081L, 0x8000000000008009L,
        0x000000000000008AL, 0x0000000000000088L, 0x0000000080008009L, 0x000000008000000AL,
        0x000000008000808BL, 0x800000000000008BL, 0x8000000000008089L, 0x8000000000008003L,
        0x8000000000008002L, 0x8000000000000080L, 0x000000000000800AL, 0x800000008000000AL,
        0x8000000080008081L, 0x8000000000008080L, 0x0000000080000001L, 0x8000000080008008L
    };

    private final long[][] lanes = new long[STATES + 1][LANES];
    private final int[] places = new int[STATES + 1];

    /** Rows that a round works with, kept so that no call makes new ones. */
    private final long[] columns = new long[5];
    private final long[] moved = new long[LANES];

    public KeccakLanes() {
    }

    public void clear(int s) throws IllegalArgumentException {
        requireUpTo(s, STATES - 1);
        long[] row = lanes[s];
        for (int i = 0; i < LANES; i++) {
            row[i] = 0L;
        }
        places[s] = 0;
    }

    public int take(int s, long v, int n) throws IllegalArgumentException {
        requireUpTo(s, STATES - 1);
        requireUpTo(n, MOST_TAKEN);
        for (int i = 0; i < n; i++) {
            takeIn(s, (int) (v >>> (8 * i)));
        }
        return places[s];
    }

    public int fill(int s, int v, int step, int n) throws IllegalArgumentException {
        requireUpTo(s, STATES - 1);
        requireUpTo(n, MOST_FILLED);
        for (int i = 0; i < n; i++) {
            takeIn(s, v + i * step);
        }
        return places[s];
    }

    public void copy(int s, int to) throws IllegalArgumentException {
        requireUpTo(s, STATES - 1);
        requireUpTo(to, STATES - 1);
        copyState(s, to);
    }

    public void mix(int s) throws IllegalArgumentException {
        requireUpTo(s, STATES - 1);
        mixLanes(lanes[s]);
    }

    public long lane(int s, int i) throws IllegalArgumentException {
        requireUpTo(s, STATES - 1);
        requireUpTo(i, LANES - 1);
        return lanes[s][i];
    }

    public long digest(int s, int part) throws IllegalArgumentException {
        requireUpTo(s, STATES - 1);
        requireUpTo(part, DIGEST_PARTS - 1);
        copyState(s, SPARE);
        long[] row = lanes[SPARE];
        joinByte(row, places[SPARE], 1);
        joinByte(row, PLACES - 1, 128);
        mixLanes(row);
        return bytesTurnedRound(row[part]);
    }

    private static void requireUpTo(int number, int last) {
        if (number < 0 || number > last) {
            throw new IllegalArgumentException("a number is out of range");
        }
    }

    private void copyState(int s, int to) {
        System.arraycopy(lanes[s], 0, lanes[to], 0, LANES);
        places[to] = places[s];
    }

    /** Takes in the lowest 8 bits of the value. */
    private void takeIn(int s, int value) {
        joinByte(lanes[s], places[s], value);
        places[s]++;
        if (places[s] == PLACES) {
            mixLanes(lanes[s]);
            places[s] = 0;
        }
    }

    private static void joinByte(long[] row, int place, int value) {
        row[place / 8] ^= (value & 255L) << (8 * (place % 8));
    }

    private void mixLanes(long[] row) {
        for (int i = 0; i < ROUNDS; i++) {
            sumColumns(row);
            turnAndMove(row);
            combineRows(row);
            row[0] ^= CONSTANTS[i];
        }
    }

    /** Leaves in columns what every lane of column x is to be joined with. */
    private void sumColumns(long[] row) {
        long c0 = columnSum(row, 0);
        long c1 = columnSum(row, 1);
        long c2 = columnSum(row, 2);
        long c3 = columnSum(row, 3);
        long c4 = columnSum(row, 4);
        columns[0] = c4 ^ turnedLeft(c1, 1);
        columns[1] = c0 ^ turnedLeft(c2, 1);
        columns[2] = c1 ^ turnedLeft(c3, 1);
        columns[3] = c2 ^ turnedLeft(c4, 1);
        columns[4] = c3 ^ turnedLeft(c0, 1);
    }

    private static long columnSum(long[] row, int x) {
        return row[x] ^ row[x + 5] ^ row[x + 10] ^ row[x + 15] ^ row[x + 20];
    }

    /** Goes into a row of its own, because a lane's target still holds a lane that is yet to move. */
    private void turnAndMove(long[] row) {
        for (int y = 0; y < LANES; y += 5) {
            for (int x = 0; x < 5; x++) {
                int from = x + y;
                moved[TARGETS[from]] = turnedLeft(row[from] ^ columns[x], TURNS[from]);
            }
        }
    }

    private void combineRows(long[] row) {
        for (int y = 0; y < LANES; y += 5) {
            long m0 = moved[y];
            long m1 = moved[y + 1];
            long m2 = moved[y + 2];
            long m3 = moved[y + 3];
            long m4 = moved[y + 4];
            row[y] = m0 ^ (~m1 & m2);
            row[y + 1] = m1 ^ (~m2 & m3);
            row[y + 2] = m2 ^ (~m3 & m4);
            row[y + 3] = m3 ^ (~m4 & m0);
            row[y + 4] = m4 ^ (~m0 & m1);
        }
    }

    /** A turn by 0 is right too: Java takes a shift by 64 as one by 0. */
    private static long turnedLeft(long value, int bits) {
        return (value << bits) | (value >>> (64 - bits));
    }

    private static long bytesTurnedRound(long value) {
        long turned = 0L;
        for (int i = 0; i < 8; i++) {
            turned = (turned << 8) | ((value >>> (8 * i)) & 255L);
        }
        return turned;
    }
}
