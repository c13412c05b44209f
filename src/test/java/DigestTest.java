import java.nio.charset.StandardCharsets;

/** Promise 8: digest. */
public final class DigestTest {
    public static void main(String[] args) throws Exception {
        Sentences.test(DigestTest.class);
    }

    @Says("s 0 .. 7 (so for all)")
    static void sTooSmall(Checks checks) {
        checks.refusedBelow("digest(s, 0)", (x, s) -> x.digest(s, 0));
        checks.refusedBelow("digest(s, 3)", (x, s) -> x.digest(s, 3));
    }

    @Says("s 0 .. 7 (so for all)")
    static void sTooLarge(Checks checks) {
        checks.refusedAbove("digest(s, 0)", 7, (x, s) -> x.digest(s, 0));
        checks.refusedAbove("digest(s, 3)", 7, (x, s) -> x.digest(s, 3));
    }

    @Says("s 0 .. 7 (so for all)")
    static void sFrom0To7(Checks checks) {
        checks.takenInside("digest(s, 2)", 7, (x, s) -> x.digest(s, 2));
    }

    @Says("part 0 .. 3")
    static void partTooSmall(Checks checks) {
        for (int s = 0; s < Checks.STATES; s++) {
            int state = s;
            checks.refusedBelow("digest(" + s + ", part)", (x, part) -> x.digest(state, part));
        }
    }

    @Says("part 0 .. 3")
    static void partTooLarge(Checks checks) {
        for (int s = 0; s < Checks.STATES; s++) {
            int state = s;
            checks.refusedAbove("digest(" + s + ", part)", 3, (x, part) -> x.digest(state, part));
        }
    }

    @Says("part 0 .. 3")
    static void partFrom0To3(Checks checks) {
        checks.takenInside("digest(0, part)", 3, (x, part) -> x.digest(0, part));
        checks.takenInside("digest(7, part)", 3, (x, part) -> x.digest(7, part));
    }

    @Says("What is thrown: IllegalArgumentException: a number out of range.")
    static void sAndPartOutOfRangeAtOnce(Checks checks) {
        checks.refusedTwice("digest(s, part)", 7, 3, (x, s, part) -> x.digest(s, part));
    }

    @Says("part 0 .. 3")
    static void partIs0(Checks checks) {
        checks.due("digest(0, 0) of nothing", new KeccakLanes().digest(0, 0), 0xC5D2460186F7233CL);
    }

    @Says("part 0 .. 3")
    static void partIs3(Checks checks) {
        checks.due("digest(0, 3) of nothing", new KeccakLanes().digest(0, 3), 0x7BFAD8045D85A470L);
    }

    @Says("Bytes 8 part .. 8 part + 7")
    static void everyPartIsItsEightBytes(Checks checks) {
        KeccakLanes x = new KeccakLanes();
        for (int i = 0; i < 32; i++) {
            long due = Long.parseLong(Known.OF_NOTHING.substring(2 * i, 2 * i + 2), 16);
            checks.due("byte " + i + " of nothing", (x.digest(0, i / 8) >>> (56 - 8 * (i % 8))) & 255, due);
        }
    }

    @Says("the first one the highest")
    static void firstByteIsTheHighest(Checks checks) {
        long part = new KeccakLanes().digest(0, 0);
        checks.due("the first byte", part >>> 56, 0xC5);
        checks.due("the eighth byte", part & 255, 0x3C);
    }

    @Says("the first 32 bytes of LANES 0 .. 3, the lowest of each first")
    static void closedByHandItStandsInLanes0To3(Checks checks) {
        KeccakLanes x = new KeccakLanes();
        x.copy(0, 1);
        x.take(1, 1L, 1);
        x.fill(1, 0, 0, 134);
        x.take(1, 128L, 1);
        for (int i = 0; i < 32; i++) {
            checks.due("byte " + i, (x.digest(0, i / 8) >>> (56 - 8 * (i % 8))) & 255,
                (x.lane(1, i / 8) >>> (8 * (i % 8))) & 255);
        }
    }

    /** Published Keccak-256 values, among them what Ethereum has for no code, an empty list and a transfer. */
    @Says("the first one the highest")
    static void publishedTexts(Checks checks) {
        ofText(checks, "", Known.OF_NOTHING);
        ofText(checks, "\u00c0", "1dcc4de8dec75d7aab85b567b6ccd41ad312451b948a7413f0a142fd40d49347");
        ofText(checks, "abc", "4e03657aea45a94fc7d47ba826c8d667c0d1e6e33a64a036ec44f58fa12d6c45");
        ofText(checks, "The quick brown fox jumps over the lazy dog",
            "4d741b6f1eb29cb2a9b9911c82f56fa8d73b04959d3d9d222895df6c0b28aa15");
        ofText(checks, "The quick brown fox jumps over the lazy dog.",
            "578951e24efd62a3d63a86f7cd19aaa53c898fe287d2552133220370240b572d");
        ofText(checks, "Transfer(address,address,uint256)",
            "ddf252ad1be2c89b69c2b068fc378daa952ba7f163c4a11628f55a4df523b3ef");
    }

    @Says("DIGEST: of a copy: the byte at the place with 1, that at 135 with 128, MIXED")
    static void atPlace0WhenNew(Checks checks) {
        for (int s = 0; s < Checks.STATES; s++) {
            digestIs(checks, "nothing", new KeccakLanes(), s, Known.OF_NOTHING);
        }
    }

    @Says("DIGEST: of a copy: the byte at the place with 1, that at 135 with 128, MIXED")
    static void atPlaces7And8(Checks checks) {
        ofLettersA(checks, 7, "99db6a1b9f80d230b0f148af10e8d6e186bbb5492bbd22f58d93318b93fd8039");
        ofLettersA(checks, 8, "a6eb2a81043a7349b2d066b3433ceadd8dd290343e6c41a4e36e82261e0b25cb");
    }

    @Says("DIGEST: of a copy: the byte at the place with 1, that at 135 with 128, MIXED")
    static void atPlace134(Checks checks) {
        ofLettersA(checks, 134, "e5de5653994e2fa6729d329b65b5f332dee942a7ea54515e173824c232a4ff91");
    }

    @Says("DIGEST: of a copy: the byte at the place with 1, that at 135 with 128, MIXED")
    static void atPlace135WhereBothAreOneByte(Checks checks) {
        ofLettersA(checks, 135, "34367dc248bbd832f4e3e69dfaac2f92638bd0bbd18f2912ba4ef454919cf446");
        ofLettersA(checks, 271, "132f47effd6c8b1b299efa53fe68aece77ec8ae4eb2e294f668eec94f76001e1");
    }

    /** 1 with 128 is 129: the byte at 135 taken in as that gives the digest as lanes. */
    @Says("DIGEST: of a copy: the byte at the place with 1, that at 135 with 128, MIXED")
    static void atPlace135SameAs129TakenIn(Checks checks) {
        KeccakLanes x = new KeccakLanes();
        x.fill(4, 77, 5, 135);
        x.copy(4, 5);
        checks.due("take of 129 at place 135", x.take(5, 129L, 1), 0);
        for (int part = 0; part < 4; part++) {
            checks.due("digest(4, " + part + ")", x.digest(4, part), Long.reverseBytes(x.lane(5, part)));
        }
    }

    @Says("DIGEST: of a copy: the byte at the place with 1, that at 135 with 128, MIXED")
    static void behindAFull136(Checks checks) {
        ofLettersA(checks, 136, "a6c4d403279fe3e0af03729caada8374b5ca54d8065329a3ebcaeb4b60aa386e");
        ofLettersA(checks, 137, "d869f639c7046b4929fc92a4d988a8b22c55fbadb802c0c66ebcd484f1915f39");
    }

    @Says("DIGEST: of a copy: the byte at the place with 1, that at 135 with 128, MIXED")
    static void behindSeveralTimes136(Checks checks) {
        ofLettersA(checks, 272, "cf7fcd4f705ee749930d19ca84561a9bf62516bd90a471545fa2f49fdc7e63c8");
        ofLettersA(checks, 2000, "9e8787b3d03743ddca923300591a0764156d48272a95332ca851f2e7995cdfbb");
    }

    @Says("DIGEST: of a copy: the byte at the place with 1, that at 135 with 128, MIXED")
    static void atEveryPlace(Checks checks) {
        for (int n = 0; n <= 420; n++) {
            KeccakLanes x = new KeccakLanes();
            Model m = new Model();
            x.fill(3, n, 5, n);
            m.fill(3, n, 5, n);
            partsAre(checks, n + " bytes", x, m, 3);
        }
    }

    @Says("DIGEST: of a copy: the byte at the place with 1, that at 135 with 128, MIXED")
    static void mixedByHandAtEveryPlace(Checks checks) {
        for (int place = 0; place < 136; place++) {
            KeccakLanes x = new KeccakLanes();
            Model m = new Model();
            x.fill(0, 1, 1, place);
            m.fill(0, 1, 1, place);
            x.mix(0);
            m.mix(0);
            partsAre(checks, "mixed by hand at place " + place, x, m, 0);
        }
    }

    @Says("the STATE stays.")
    static void staysAtPlace0(Checks checks) {
        stays(checks, 0);
        stays(checks, 136);
    }

    @Says("the STATE stays.")
    static void staysAtPlace135(Checks checks) {
        stays(checks, 135);
    }

    @Says("the STATE stays.")
    static void staysAtOtherPlaces(Checks checks) {
        for (int count = 1; count < 135; count++) {
            stays(checks, count);
        }
    }

    @Says("the STATE stays.")
    static void allStatesStay(Checks checks) {
        KeccakLanes x = Checks.busy();
        for (int s = 0; s < Checks.STATES; s++) {
            for (int part = 0; part < 4; part++) {
                long first = x.digest(s, part);
                checks.due("digest(" + s + ", " + part + ") again", x.digest(s, part), first);
            }
        }
        checks.sameStates("after digests", x, Checks.busy());
    }

    @Says("the STATE stays.")
    static void bytesGoOnBehindDigests(Checks checks) {
        KeccakLanes x = new KeccakLanes();
        KeccakLanes y = new KeccakLanes();
        for (int i = 0; i < 140; i++) {
            x.take(0, i, 1);
            x.digest(0, i % 4);
            y.take(0, i, 1);
        }
        checks.sameState("digests between bytes", x, 0, y, 0);
    }

    private static void stays(Checks checks, int count) {
        KeccakLanes x = new KeccakLanes();
        KeccakLanes y = new KeccakLanes();
        x.fill(6, 3, 7, count);
        y.fill(6, 3, 7, count);
        for (int part = 0; part < 4; part++) {
            x.digest(6, part);
        }
        checks.sameStates("digests behind " + count + " bytes", x, y);
    }

    private static void ofText(Checks checks, String text, String hex) {
        for (int s = 0; s < Checks.STATES; s++) {
            KeccakLanes x = new KeccakLanes();
            for (byte b : text.getBytes(StandardCharsets.ISO_8859_1)) {
                x.take(s, b, 1);
            }
            digestIs(checks, "'" + text + "'", x, s, hex);
        }
    }

    /** Digests of letters a are from the program behind Known.MIXED_A5_AT_135. */
    private static void ofLettersA(Checks checks, int count, String hex) {
        KeccakLanes x = new KeccakLanes();
        x.fill(1, 'a', 0, count);
        digestIs(checks, count + " letters a", x, 1, hex);
    }

    private static void digestIs(Checks checks, String what, KeccakLanes x, int s, String hex) {
        for (int part = 0; part < 4; part++) {
            checks.due("digest(" + s + ", " + part + ") of " + what, x.digest(s, part), Known.part(hex, part));
        }
    }

    private static void partsAre(Checks checks, String what, KeccakLanes x, Model m, int s) {
        for (int part = 0; part < 4; part++) {
            checks.due(what + ": digest(" + s + ", " + part + ")", x.digest(s, part), m.digest(s, part));
        }
    }
}
