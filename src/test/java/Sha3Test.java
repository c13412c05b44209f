import java.security.MessageDigest;
import java.security.NoSuchAlgorithmException;

/**
 * Bytes taken in and MIXED, against code that is not ours: SHA3-256 of the Java library differs from
 * the document's DIGEST in its closing bytes alone, so with those taken in by hand lanes 0 .. 3 are its answer.
 */
public final class Sha3Test {
    public static void main(String[] args) throws NoSuchAlgorithmException {
        Checks checks = new Checks();
        MessageDigest sha3 = MessageDigest.getInstance("SHA3-256");
        for (int n = 0; n <= 1000; n++) {
            byte[] answer = sha3.digest(bytes(n));
            KeccakLanes x = new KeccakLanes();
            closeAsSha3(x, x.fill(2, n, 7, n));
            for (int i = 0; i < 32; i++) {
                long got = (x.lane(2, i / 8) >>> (8 * (i % 8))) & 255;
                checks.due("byte " + i + " of SHA3-256 of " + n + " bytes", got, answer[i] & 255);
            }
        }
        checks.end();
    }

    private static byte[] bytes(int n) {
        byte[] message = new byte[n];
        for (int i = 0; i < n; i++) {
            message[i] = (byte) (n + 7 * i);
        }
        return message;
    }

    private static void closeAsSha3(KeccakLanes x, int place) {
        if (place == 135) {
            x.take(2, 0x86L, 1);
        } else {
            x.take(2, 6L, 1);
            x.fill(2, 0, 0, 134 - place);
            x.take(2, 0x80L, 1);
        }
    }
}
