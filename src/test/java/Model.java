/** The document's words once more, step by step and with nothing worked out beforehand. */
final class Model {
    private final long[][][] lanes = new long[8][5][5];
    private final int[] places = new int[8];

    void clear(int s) {
        lanes[s] = new long[5][5];
        places[s] = 0;
    }

    int take(int s, long v, int n) {
        for (int i = 0; i < n; i++) {
            takeIn(s, (v >> (8 * i)) & 255);
        }
        return places[s];
    }

    int fill(int s, int v, int step, int n) {
        for (int i = 0; i < n; i++) {
            takeIn(s, Math.floorMod(v + (long) i * step, 256L));
        }
        return places[s];
    }

    void copy(int s, int to) {
        lanes[to] = copied(lanes[s]);
        places[to] = places[s];
    }

    void mix(int s) {
        lanes[s] = mixed(lanes[s]);
    }

    long lane(int s, int i) {
        return lanes[s][i % 5][i / 5];
    }

    long digest(int s, int part) {
        long[][] a = copied(lanes[s]);
        join(a, places[s], 1);
        join(a, 135, 128);
        return Long.reverseBytes(mixed(a)[part][0]);
    }

    private void takeIn(int s, long b) {
        join(lanes[s], places[s], b);
        places[s]++;
        if (places[s] == 136) {
            mix(s);
            places[s] = 0;
        }
    }

    private static void join(long[][] a, int place, long b) {
        int i = place / 8;
        a[i % 5][i / 5] ^= b << (8 * (place % 8));
    }

    private static long[][] copied(long[][] a) {
        long[][] b = new long[5][];
        for (int x = 0; x < 5; x++) {
            b[x] = a[x].clone();
        }
        return b;
    }

    private static long[][] mixed(long[][] before) {
        long[][] a = before;
        int[][] r = turns();
        long[] constants = constants();
        for (int i = 0; i < 24; i++) {
            a = combined(moved(spread(a), r));
            a[0][0] ^= constants[i];
        }
        return a;
    }

    static long[] constants() {
        long[] constants = new long[24];
        int bits = 1;
        for (int i = 0; i < 24; i++) {
            for (int k = 0; k <= 6; k++) {
                constants[i] |= (long) (bits & 1) << ((1 << k) - 1);
                bits *= 2;
                if (bits >= 256) {
                    bits ^= 369;
                }
            }
        }
        return constants;
    }

    /** By x, then y. */
    static int[][] turns() {
        int[][] r = new int[5][5];
        int x = 1;
        int y = 0;
        for (int t = 0; t <= 23; t++) {
            r[x][y] = (t + 1) * (t + 2) / 2 % 64;
            int next = (2 * x + 3 * y) % 5;
            x = y;
            y = next;
        }
        return r;
    }

    private static long[][] spread(long[][] a) {
        long[] c = new long[5];
        long[][] b = new long[5][5];
        for (int x = 0; x < 5; x++) {
            for (int y = 0; y < 5; y++) {
                c[x] ^= a[x][y];
            }
        }
        for (int x = 0; x < 5; x++) {
            for (int y = 0; y < 5; y++) {
                b[x][y] = a[x][y] ^ c[(x + 4) % 5] ^ Long.rotateLeft(c[(x + 1) % 5], 1);
            }
        }
        return b;
    }

    private static long[][] moved(long[][] a, int[][] r) {
        long[][] b = new long[5][5];
        for (int x = 0; x < 5; x++) {
            for (int y = 0; y < 5; y++) {
                b[y][(2 * x + 3 * y) % 5] = Long.rotateLeft(a[x][y], r[x][y]);
            }
        }
        return b;
    }

    private static long[][] combined(long[][] a) {
        long[][] b = new long[5][5];
        for (int x = 0; x < 5; x++) {
            for (int y = 0; y < 5; y++) {
                b[x][y] = a[x][y] ^ (~a[(x + 1) % 5][y] & a[(x + 2) % 5][y]);
            }
        }
        return b;
    }
}
