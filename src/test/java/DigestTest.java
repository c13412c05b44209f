import java.nio.charset.StandardCharsets;

/** Promise 8: digest. */
public final class DigestTest {
    public static void main(String[] args) {
        Checks checks = new Checks();
        knownTexts(checks);
        everyPlace(checks);
        ofStatesMixedByHand(checks);
        statesStay(checks);
        goesOnAfterwards(checks);
        checks.ranges("digest(s, 0)", 7, (x, s) -> x.digest(s, 0));
        checks.ranges("digest(s, 3)", 7, (x, s) -> x.digest(s, 3));
        checks.ranges("digest(0, part)", 3, (x, part) -> x.digest(0, part));
        checks.ranges("digest(7, part)", 3, (x, part) -> x.digest(7, part));
        checks.end();
    }

    /** Published Keccak-256 values, among them what Ethereum has for no code, an empty list and a transfer. */
    private static void knownTexts(Checks checks) {
        known(checks, "", "c5d2460186f7233c927e7db2dcc703c0e500b653ca82273b7bfad8045d85a470");
        known(checks, "\u00c0", "1dcc4de8dec75d7aab85b567b6ccd41ad312451b948a7413f0a142fd40d49347");
        known(checks, "abc", "4e03657aea45a94fc7d47ba826c8d667c0d1e6e33a64a036ec44f58fa12d6c45");
        known(checks, "The quick brown fox jumps over the lazy dog",
            "4d741b6f1eb29cb2a9b9911c82f56fa8d73b04959d3d9d222895df6c0b28aa15");
        known(checks, "The quick brown fox jumps over the lazy dog.",
            "578951e24efd62a3d63a86f7cd19aaa53c898fe287d2552133220370240b572d");
        known(checks, "Transfer(address,address,uint256)",
            "ddf252ad1be2c89b69c2b068fc378daa952ba7f163c4a11628f55a4df523b3ef");
    }

    private static void known(Checks checks, String text, String hex) {
        for (int s = 0; s < Checks.STATES; s++) {
            KeccakLanes x = new KeccakLanes();
            for (byte b : text.getBytes(StandardCharsets.ISO_8859_1)) {
                x.take(s, b, 1);
            }
            for (int part = 0; part < 4; part++) {
                long due = Long.parseUnsignedLong(hex.substring(16 * part, 16 * part + 16), 16);
                checks.due("digest(" + s + ", " + part + ") of '" + text + "'", x.digest(s, part), due);
            }
        }
    }

    private static void everyPlace(Checks checks) {
        for (int n = 0; n <= 420; n++) {
            KeccakLanes x = new KeccakLanes();
            Model m = new Model();
            x.fill(3, n, 5, n);
            m.fill(3, n, 5, n);
            partsAre(checks, n + " bytes", x, m, 3);
        }
    }

    private static void ofStatesMixedByHand(Checks checks) {
        for (int place = 0; place < 136; place++) {
            KeccakLanes x = new KeccakLanes();
            Model m = new Model();
            x.fill(0, 1, 1, place);
            m.fill(0, 1, 1, place);
            x.mix(0);
            m.mix(0);
            partsAre(checks, "mixed by hand at place " + place, x, m, 0);
        }
    }

    private static void partsAre(Checks checks, String what, KeccakLanes x, Model m, int s) {
        for (int part = 0; part < 4; part++) {
            checks.due(what + ": digest(" + s + ", " + part + ")", x.digest(s, part), m.digest(s, part));
        }
    }

    private static void statesStay(Checks checks) {
        KeccakLanes x = Checks.busy();
        for (int s = 0; s < Checks.STATES; s++) {
            for (int part = 0; part < 4; part++) {
                long first = x.digest(s, part);
                checks.due("digest(" + s + ", " + part + ") again", x.digest(s, part), first);
            }
        }
        checks.sameStates("after digests", x, Checks.busy());
    }

    private static void goesOnAfterwards(Checks checks) {
        KeccakLanes x = new KeccakLanes();
        KeccakLanes y = new KeccakLanes();
        for (int i = 0; i < 140; i++) {
            x.take(0, i, 1);
            x.digest(0, i % 4);
            y.take(0, i, 1);
        }
        checks.sameState("digests between bytes", x, 0, y, 0);
    }
}
