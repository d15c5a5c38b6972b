import java.math.BigInteger;

/** The yardstick itself, held against what is published: the first vector of RFC 9807, ristretto255 and SHA-512. */
public final class OracleTest {
    public static void main(String[] args) {
        Suite suite = new Suite("OracleTest", args);
        suite.test("RFC 9807: the record, the messages and the keys", OracleTest::vector);
        suite.test("RFC 9496: BASE", () -> due("BASE", Oracle.code(Oracle.BASE),
            "e2f2ae0a6abc4e71a884a961c500515f58e30b6aa582dd8db6a65945e08d2d76"));
        suite.test("q times BASE is 0", () -> due("q", Oracle.open(Oracle.Q), "00".repeat(32)));
        suite.close();
    }

    private static void due(String what, byte[] got, String want) {
        Both.due(what, Both.digits(got), want);
    }

    private static void vector() {
        byte[] secret = Both.bytes("f433d0227b0b9dd54f7c4422b600e764e47fb503f1f9a0f0a47c6606b054a7fd"
            + "c65347f1a08f277e22358bbabe26f823fca82c7848e9a75661f4ec5d5c1989ef");
        byte[] password = Oracle.join("CorrectHorseBatteryStaple");
        byte[] nonce = Both.bytes("ac13171b2f17bc2c74997f0fce1e1f35bec6b91fe2e12dbd323d23ba7a38dfec");
        BigInteger s = Oracle.read(Both.bytes("47451a85372f8b3537e249d7b54188091fb18edde78094b43e2ba42b5eb89f0d"));
        byte[] serverPublic = Oracle.open(s);
        due("S'", serverPublic, "b2fe7af9f48cc502d016729d2fe25cdd433f2c4bc904660b2a382c9b79df1a78");
        BigInteger userKey = Oracle.key(Oracle.expand(secret, Oracle.join("1234", "OprfKey"), 32), "OPAQUE-DeriveKeyPair");
        byte[] r = Oracle.second(password, Oracle.code(Oracle.times(userKey, Oracle.group(password))));
        due("SECOND", r, "aac48c25ab036e30750839d31d6e73007344cb1155289fb7d329beb932e9adee"
            + "a73d5d5c22a0ce1952f8aba6d66007615cd1698d4ac85ef1fcf150031d1435d9");
        byte[] maskKey = Oracle.expand(r, Oracle.join("MaskingKey"), 64);
        due("mask key", maskKey, "1ac5844383c7708077dea41cbefe2fa15724f449e535dd7dd562e66f5ecfb958"
            + "64eadddec9db5874959905117dad40a4524111849799281fefe3c51fa82785c5");
        Oracle.Opened opened = new Oracle.Opened(r, nonce, serverPublic);
        due("U'", opened.clientPublic, "76a845464c68a5d2f7e442436bb1424953b17d3e2e289ccbaccafb57ac5c3675");
        due("envelope", opened.envelope, Both.digits(nonce)
            + "634b0f5b96109c198a8027da51854c35bee90d1e1c781806d07d49b76de6a28b"
            + "8d9e9b6c93b9f8b64d16dddd9c5bfb5fea48ee8fd2f75012a8b308605cdd8ba5");
        due("export key", opened.export, "1ef15b4fa99e8a852412450ab78713aad30d21fa6966c9b8c9fb3262a970dc62"
            + "950d4dd4ed62598229b1b72794fc0335199d9f7fcc6eaedde92cc04870e63f16");
        exchange(s, userKey, password, maskKey, opened);
    }

    private static void exchange(BigInteger s, BigInteger userKey, byte[] password, byte[] maskKey, Oracle.Opened opened) {
        BigInteger b = Oracle.read(Both.bytes("6ecc102d2e7a7cf49617aad7bbe188556792d4acd60a1a8a8d2b65d4b0790308"));
        BigInteger x = Oracle.key(
            Both.bytes("82850a697b42a505f5b68fcdafce8c31f0af2b581f063cf1091933541936304b"), Oracle.DIFFIE);
        BigInteger y = Oracle.key(
            Both.bytes("05a4f54206eef1ba2f615bc0aa285cb22f26d1153b5b40a1e85ff80da12f982f"), Oracle.DIFFIE);
        byte[] first = Oracle.join(Oracle.code(Oracle.times(b, Oracle.group(password))),
            Both.bytes("da7e07376d6d6f034cfa9bb537d11b8c6b4238c334333d1f0aebb380cae6a6cc"), Oracle.open(x));
        due("message 1", first, "c4dedb0ba6ed5d965d6f250fbe554cd45cba5dfcce3ce836e4aee778aa3cd44d"
            + "da7e07376d6d6f034cfa9bb537d11b8c6b4238c334333d1f0aebb380cae6a6cc"
            + "6e29bee50701498605b2c085d7b241ca15ba5c32027dd21ba420b94ce60da326");
        byte[] m = Both.bytes("38fe59af0df2c79f57b8780278f5ae47355fe1f817119041951c80f612fdfc6d");
        byte[] serverPublic = Oracle.open(s);
        byte[] pad = Oracle.expand(maskKey, Oracle.join(m, "CredentialResponsePad"), 128);
        byte[] second = Oracle.join(Oracle.code(Oracle.times(userKey, Oracle.decode(Oracle.cut(first, 0, 32)))), m,
            Oracle.xor(Oracle.join(serverPublic, opened.envelope), pad),
            Both.bytes("71cd9960ecef2fe0d0f7494986fa3d8b2bb01963537e60efb13981e138e3d4a1"), Oracle.open(y));
        Oracle.Spot share = Oracle.decode(Oracle.cut(first, 64, 96));
        byte[] joined = Oracle.join(Oracle.code(Oracle.times(y, share)), Oracle.code(Oracle.times(s, share)),
            Oracle.code(Oracle.times(y, Oracle.decode(opened.clientPublic))));
        Oracle.Keys keys = new Oracle.Keys(
            Oracle.preamble("OPAQUE-POC", opened.clientPublic, first, serverPublic, second), joined);
        due("message 2", Oracle.join(second, keys.serverMac),
            "7e308140890bcde30cbcea28b01ea1ecfbd077cff62c4def8efa075aabcbb471"
            + "38fe59af0df2c79f57b8780278f5ae47355fe1f817119041951c80f612fdfc6d"
            + "d6ec60bcdb26dc455ddf3e718f1020490c192d70dfc7e403981179d8073d1146"
            + "a4f9aa1ced4e4cd984c657eb3b54ced3848326f70331953d91b02535af44d9fe"
            + "dc80188ca46743c52786e0382f95ad85c08f6afcd1ccfbff95e2bdeb015b166c"
            + "6b20b92f832cc6df01e0b86a7efd92c1c804ff865781fa93f2f20b446c8371b6"
            + "71cd9960ecef2fe0d0f7494986fa3d8b2bb01963537e60efb13981e138e3d4a1"
            + "c4f62198a9d6fa9170c42c3c71f1971b29eb1d5d0bd733e40816c91f7912cc4a"
            + "660c48dae03e57aaa38f3d0cffcfc21852ebc8b405d15bd6744945ba1a93438a"
            + "162b6111699d98a16bb55b7bdddfe0fc5608b23da246e7bd73b47369169c5c90");
        due("message 3", keys.clientMac, "4455df4f810ac31a6748835888564b536e6da5d9944dfea9e34defb9575fe5e2"
            + "661ef61d2ae3929bcf57e53d464113d364365eb7d1a57b629707ca48da18e442");
        due("session key", keys.session, "42afde6f5aca0cfa5c163763fbad55e73a41db6b41bc87b8e7b62214a8eedc67"
            + "31fa3cb857d657ab9b3764b89a84e91ebcb4785166fbb02cedfcbdfda215b96f");
    }
}
