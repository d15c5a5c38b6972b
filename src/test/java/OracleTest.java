import java.math.BigInteger;
import java.nio.ByteBuffer;
import java.nio.LongBuffer;

/**
 * The yardstick itself, held against what is published (the first vector of RFC 9807, ristretto255 and SHA-512), and
 * against the document's words where the oracle takes a shorter way.
 */
public final class OracleTest {
    public static void main(String[] args) {
        Suite suite = new Suite("OracleTest", args);
        suite.test("RFC 9807: the record, the messages and the keys", OracleTest::vector);
        suite.test("RFC 9496: BASE", () -> due("BASE", Oracle.code(Oracle.BASE),
            "e2f2ae0a6abc4e71a884a961c500515f58e30b6aa582dd8db6a65945e08d2d76"));
        suite.test("q times BASE is 0", () -> due("q", Oracle.open(Oracle.Q), "00".repeat(32)));
        suite.test("HASH, by the document's words, is the library's SHA-512", OracleTest::hash);
        suite.test("THE FIELD: i, D, e, g and BASE are what the document says", OracleTest::constants);
        suite.test("POINTS: sums are the document's fractions", OracleTest::sums);
        suite.close();
    }

    /** The first 64 bits behind the point of the square or cube root of a number. */
    private static long rootBits(int n, int power) {
        BigInteger moved = BigInteger.valueOf(n).shiftLeft(64 * power);
        BigInteger root = BigInteger.ZERO;
        for (int bit = 70; bit >= 0; bit--) {
            BigInteger more = root.setBit(bit);
            root = more.pow(power).compareTo(moved) <= 0 ? more : root;
        }
        return root.longValue();
    }

    private static int[] primes(int n) {
        int[] out = new int[n];
        int found = 0;
        for (int candidate = 2; found < n; candidate++) {
            if (BigInteger.valueOf(candidate).isProbablePrime(50)) {
                out[found++] = candidate;
            }
        }
        return out;
    }

    private static byte[] wordHash(byte[] text) {
        int zeros = Math.floorMod(112 - (text.length + 1), 128);
        byte[] padded = Oracle.join(text, Oracle.number(1, 128), new byte[zeros], Oracle.number(16, 8 * text.length));
        long[] state = new long[8];
        for (int i = 0; i < 8; i++) {
            state[i] = rootBits(primes(8)[i], 2);
        }
        for (int at = 0; at < padded.length; at += 128) {
            mixBlock(state, ByteBuffer.wrap(padded, at, 128).asLongBuffer());
        }
        ByteBuffer out = ByteBuffer.allocate(64);
        out.asLongBuffer().put(state);
        return out.array();
    }

    private static long turned(long word, int first, int second, int third) {
        return Long.rotateRight(word, first) ^ Long.rotateRight(word, second) ^ Long.rotateRight(word, third);
    }

    private static long moved(long word, int first, int second, int third) {
        return Long.rotateRight(word, first) ^ Long.rotateRight(word, second) ^ word >>> third;
    }

    private static void mixBlock(long[] state, LongBuffer block) {
        int[] primes = primes(80);
        long[] w = new long[80];
        for (int t = 0; t < 80; t++) {
            w[t] = t < 16 ? block.get(t)
                : moved(w[t - 2], 19, 61, 6) + w[t - 7] + moved(w[t - 15], 1, 8, 7) + w[t - 16];
        }
        long[] s = state.clone();
        for (int t = 0; t < 80; t++) {
            long x = s[7] + turned(s[4], 14, 18, 41) + (s[4] & s[5] ^ ~s[4] & s[6]) + rootBits(primes[t], 3) + w[t];
            long y = turned(s[0], 28, 34, 39) + (s[0] & s[1] ^ s[0] & s[2] ^ s[1] & s[2]);
            s = new long[] {x + y, s[0], s[1], s[2], s[3] + x, s[4], s[5], s[6]};
        }
        for (int i = 0; i < 8; i++) {
            state[i] += s[i];
        }
    }

    private static void hash() {
        for (int n : new int[] {0, 1, 111, 112, 127, 128, 200, 495}) {
            byte[] text = new byte[n];
            for (int i = 0; i < n; i++) {
                text[i] = (byte) (11 * i + 200);
            }
            due("HASH of " + n, Oracle.hash(text), Both.digits(wordHash(text)));
        }
    }

    private static void dueNumber(String what, BigInteger got, BigInteger want) {
        Both.due(what, got.mod(Oracle.P).toString(), want.mod(Oracle.P).toString());
    }

    private static void constants() {
        BigInteger one = Oracle.ONE;
        BigInteger minus = one.negate();
        dueNumber("p", Oracle.P.add(BigInteger.valueOf(19)).shiftRight(255), one);
        dueNumber("i i", Oracle.times(Oracle.I, Oracle.I), minus);
        dueNumber("D 121666", Oracle.times(Oracle.D, BigInteger.valueOf(121666)), BigInteger.valueOf(-121665));
        dueNumber("e e (-1 - D)", Oracle.times(Oracle.E, Oracle.E, minus.subtract(Oracle.D)), one);
        Both.due("e is odd", Oracle.odd(Oracle.E), false);
        dueNumber("g g", Oracle.times(Oracle.G, Oracle.G), Oracle.D.negate().subtract(one));
        Both.due("g is odd", Oracle.odd(Oracle.G), true);
        BigInteger x = Oracle.BASE.x();
        BigInteger y = Oracle.BASE.y();
        dueNumber("BASE's y", Oracle.times(y, BigInteger.valueOf(5)), BigInteger.valueOf(4));
        Both.due("BASE's x is odd", Oracle.odd(x), false);
        dueNumber("BASE is a point", Oracle.times(y, y).subtract(Oracle.times(x, x)),
            one.add(Oracle.times(Oracle.D, x, x, y, y)));
    }

    private static BigInteger divided(BigInteger above, BigInteger below) {
        return Oracle.times(above, below.modInverse(Oracle.P));
    }

    private static void sums() {
        Oracle.Spot p = Oracle.group(Oracle.join("p"));
        Oracle.Spot q = Oracle.group(Oracle.join("q"));
        for (Oracle.Spot[] two : new Oracle.Spot[][] {{p, q}, {p, p}, {q, Oracle.BASE}, {p, Oracle.times(Oracle.ZERO, p)}}) {
            BigInteger x1 = divided(two[0].x(), two[0].z());
            BigInteger y1 = divided(two[0].y(), two[0].z());
            BigInteger x2 = divided(two[1].x(), two[1].z());
            BigInteger y2 = divided(two[1].y(), two[1].z());
            BigInteger dxy = Oracle.times(Oracle.D, x1, x2, y1, y2);
            Oracle.Spot sum = Oracle.sum(two[0], two[1]);
            dueNumber("x", divided(sum.x(), sum.z()),
                divided(Oracle.times(x1, y2).add(Oracle.times(y1, x2)), Oracle.ONE.add(dxy)));
            dueNumber("y", divided(sum.y(), sum.z()),
                divided(Oracle.times(y1, y2).add(Oracle.times(x1, x2)), Oracle.ONE.subtract(dxy)));
        }
    }

    private static void due(String what, byte[] got, String want) {
        Both.due(what, Both.digits(got), want);
    }

    private static void vector() {
        byte[] secret = Both.bytes("f433d0227b0b9dd54f7c4422b600e764e47fb503f1f9a0f0a47c6606b054a7fd"
            + "c65347f1a08f277e22358bbabe26f823fca82c7848e9a75661f4ec5d5c1989ef");
        byte[] password = Oracle.join("CorrectHorseBatteryStaple");
        byte[] nonce = Both.bytes("ac13171b2f17bc2c74997f0fce1e1f35bec6b91fe2e12dbd323d23ba7a38dfec");
        BigInteger s = Oracle.read(Both.bytes("47451a85372f8b3537e249d7b54188091fb18edde78094b43e2ba42b5eb89f0d"));
        byte[] serverPublic = Oracle.open(s);
        due("S'", serverPublic, "b2fe7af9f48cc502d016729d2fe25cdd433f2c4bc904660b2a382c9b79df1a78");
        BigInteger userKey = Oracle.key(Oracle.expand(secret, Oracle.join("1234", "OprfKey"), 32), "OPAQUE-DeriveKeyPair");
        byte[] r = Oracle.second(password, Oracle.code(Oracle.times(userKey, Oracle.group(password))));
        due("SECOND", r, "aac48c25ab036e30750839d31d6e73007344cb1155289fb7d329beb932e9adee"
            + "a73d5d5c22a0ce1952f8aba6d66007615cd1698d4ac85ef1fcf150031d1435d9");
        byte[] maskKey = Oracle.expand(r, Oracle.join("MaskingKey"), 64);
        due("mask key", maskKey, "1ac5844383c7708077dea41cbefe2fa15724f449e535dd7dd562e66f5ecfb958"
            + "64eadddec9db5874959905117dad40a4524111849799281fefe3c51fa82785c5");
        Oracle.Opened opened = new Oracle.Opened(r, nonce, serverPublic);
        due("U'", opened.clientPublic, "76a845464c68a5d2f7e442436bb1424953b17d3e2e289ccbaccafb57ac5c3675");
        due("envelope", opened.envelope, Both.digits(nonce)
            + "634b0f5b96109c198a8027da51854c35bee90d1e1c781806d07d49b76de6a28b"
            + "8d9e9b6c93b9f8b64d16dddd9c5bfb5fea48ee8fd2f75012a8b308605cdd8ba5");
        due("export key", opened.export, "1ef15b4fa99e8a852412450ab78713aad30d21fa6966c9b8c9fb3262a970dc62"
            + "950d4dd4ed62598229b1b72794fc0335199d9f7fcc6eaedde92cc04870e63f16");
        exchange(s, userKey, password, maskKey, opened);
    }

    private static void exchange(BigInteger s, BigInteger userKey, byte[] password, byte[] maskKey, Oracle.Opened opened) {
        BigInteger b = Oracle.read(Both.bytes("6ecc102d2e7a7cf49617aad7bbe188556792d4acd60a1a8a8d2b65d4b0790308"));
        BigInteger x = Oracle.key(
            Both.bytes("82850a697b42a505f5b68fcdafce8c31f0af2b581f063cf1091933541936304b"), Oracle.DIFFIE);
        BigInteger y = Oracle.key(
            Both.bytes("05a4f54206eef1ba2f615bc0aa285cb22f26d1153b5b40a1e85ff80da12f982f"), Oracle.DIFFIE);
        byte[] first = Oracle.join(Oracle.code(Oracle.times(b, Oracle.group(password))),
            Both.bytes("da7e07376d6d6f034cfa9bb537d11b8c6b4238c334333d1f0aebb380cae6a6cc"), Oracle.open(x));
        due("message 1", first, "c4dedb0ba6ed5d965d6f250fbe554cd45cba5dfcce3ce836e4aee778aa3cd44d"
            + "da7e07376d6d6f034cfa9bb537d11b8c6b4238c334333d1f0aebb380cae6a6cc"
            + "6e29bee50701498605b2c085d7b241ca15ba5c32027dd21ba420b94ce60da326");
        byte[] m = Both.bytes("38fe59af0df2c79f57b8780278f5ae47355fe1f817119041951c80f612fdfc6d");
        byte[] serverPublic = Oracle.open(s);
        byte[] pad = Oracle.expand(maskKey, Oracle.join(m, "CredentialResponsePad"), 128);
        byte[] second = Oracle.join(Oracle.code(Oracle.times(userKey, Oracle.decode(Oracle.cut(first, 0, 32)))), m,
            Oracle.xor(Oracle.join(serverPublic, opened.envelope), pad),
            Both.bytes("71cd9960ecef2fe0d0f7494986fa3d8b2bb01963537e60efb13981e138e3d4a1"), Oracle.open(y));
        Oracle.Spot share = Oracle.decode(Oracle.cut(first, 64, 96));
        byte[] joined = Oracle.join(Oracle.code(Oracle.times(y, share)), Oracle.code(Oracle.times(s, share)),
            Oracle.code(Oracle.times(y, Oracle.decode(opened.clientPublic))));
        Oracle.Keys keys = new Oracle.Keys(
            Oracle.preamble("OPAQUE-POC", opened.clientPublic, first, serverPublic, second), joined);
        due("message 2", Oracle.join(second, keys.serverMac),
            "7e308140890bcde30cbcea28b01ea1ecfbd077cff62c4def8efa075aabcbb471"
            + "38fe59af0df2c79f57b8780278f5ae47355fe1f817119041951c80f612fdfc6d"
            + "d6ec60bcdb26dc455ddf3e718f1020490c192d70dfc7e403981179d8073d1146"
            + "a4f9aa1ced4e4cd984c657eb3b54ced3848326f70331953d91b02535af44d9fe"
            + "dc80188ca46743c52786e0382f95ad85c08f6afcd1ccfbff95e2bdeb015b166c"
            + "6b20b92f832cc6df01e0b86a7efd92c1c804ff865781fa93f2f20b446c8371b6"
            + "71cd9960ecef2fe0d0f7494986fa3d8b2bb01963537e60efb13981e138e3d4a1"
            + "c4f62198a9d6fa9170c42c3c71f1971b29eb1d5d0bd733e40816c91f7912cc4a"
            + "660c48dae03e57aaa38f3d0cffcfc21852ebc8b405d15bd6744945ba1a93438a"
            + "162b6111699d98a16bb55b7bdddfe0fc5608b23da246e7bd73b47369169c5c90");
        due("message 3", keys.clientMac, "4455df4f810ac31a6748835888564b536e6da5d9944dfea9e34defb9575fe5e2"
            + "661ef61d2ae3929bcf57e53d464113d364365eb7d1a57b629707ca48da18e442");
        due("session key", keys.session, "42afde6f5aca0cfa5c163763fbad55e73a41db6b41bc87b8e7b62214a8eedc67"
            + "31fa3cb857d657ab9b3764b89a84e91ebcb4785166fbb02cedfcbdfda215b96f");
    }
}
