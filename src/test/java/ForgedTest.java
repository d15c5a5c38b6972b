import java.math.BigInteger;
import java.util.Arrays;

/**
 * Message 2 by a forger who knows the password and all of the client's chances. Only so can the faults be told apart
 * that come behind the envelope's MAC, and what one side answers when the other is not who it seems.
 */
public final class ForgedTest {
    private static final BigInteger S = BigInteger.valueOf(1234567);
    private static final BigInteger Y = BigInteger.valueOf(7654321);
    private static final byte[] NO_POINT = Both.bytes("01" + "00".repeat(31));
    private static final byte[] NOT_BELOW_P = Both.bytes("ee" + "ff".repeat(30) + "7f");
    private static final byte[] ZERO = new byte[32];

    public static void main(String[] args) {
        Suite suite = new Suite("ForgedTest", args);
        right(suite);
        noPoints(suite);
        order(suite);
        zeros(suite);
        suite.close();
    }

    private static void due(String what, long got, long want) {
        Both.due(what, got, want);
    }

    private static void due(String what, String got, String want) {
        Both.due(what, got, want);
    }

    /** User 1's session 2, answered by the server. */
    private static Both answered() {
        Both x = new Both("a gate", 11);
        x.text("secret");
        x.enroll(1);
        x.text("secret");
        x.begin(2, 1);
        due("answer", x.answer(2), 0);
        return x;
    }

    /** A message 2 of the forger's own, and the keys that the client must make of it. */
    private static final class Forgery {
        final byte[] message;
        final byte[] export;
        Oracle.Keys keys;

        Forgery(Oracle.Talk talk, byte[] evaluated, byte[] serverPublic, byte[] share) {
            Oracle.Spot point = Oracle.decode(evaluated);
            BigInteger unblind = talk.blind.modInverse(Oracle.Q);
            byte[] r = Oracle.second(talk.password, Oracle.code(Oracle.times(unblind, point)));
            byte[] nonce = new byte[32];
            Arrays.fill(nonce, (byte) 3);
            byte[] m = new byte[32];
            Arrays.fill(m, (byte) 200);
            Oracle.Opened opened = new Oracle.Opened(r, nonce, serverPublic);
            export = opened.export;
            byte[] pad = Oracle.expand(Oracle.expand(r, Oracle.join("MaskingKey"), 64),
                Oracle.join(m, "CredentialResponsePad"), 128);
            byte[] second = Oracle.join(evaluated, m, Oracle.xor(Oracle.join(serverPublic, opened.envelope), pad),
                nonce, share);
            Oracle.Spot s = Oracle.decode(serverPublic);
            Oracle.Spot y = Oracle.decode(share);
            byte[] mac = new byte[64];
            if (s != null && y != null) {
                byte[] joined = Oracle.join(Oracle.code(Oracle.times(talk.x, y)), Oracle.code(Oracle.times(talk.x, s)),
                    Oracle.code(Oracle.times(opened.key, y)));
                keys = new Oracle.Keys(
                    Oracle.preamble("", opened.clientPublic, talk.sent, serverPublic, second), joined);
                mac = keys.serverMac;
            }
            message = Oracle.join(second, mac);
        }
    }

    private static Forgery forge(Both x, byte[] evaluated, byte[] serverPublic, byte[] share) {
        Forgery forgery = new Forgery(x.oracle().talk(2), evaluated, serverPublic, share);
        x.put(2, 2, 0, forgery.message);
        return forgery;
    }

    private static byte[] evaluated() {
        return Oracle.open(BigInteger.valueOf(99));
    }

    private static void dueRight(byte[] evaluated, byte[] serverPublic, byte[] share) {
        Both x = answered();
        Forgery forgery = forge(x, evaluated, serverPublic, share);
        due("finish", x.finish(2), 0);
        due("message 3", x.wireHex(2, 3), Both.digits(forgery.keys.clientMac));
        due("the client's key", x.keyHex(2, 0), Both.digits(forgery.keys.session));
        due("the export key", x.keyHex(2, 2), Both.digits(forgery.export));
        due("the server awaits another MAC", x.accept(2), 5);
        due("the server's key", x.keyHex(2, 1), "");
        due("it was read", x.accept(2), 2);
    }

    private static void dueFault(Both x, int fault) {
        due("finish", x.finish(2), fault);
        due("message 3", x.wireHex(2, 3), "");
        due("the client's key", x.keyHex(2, 0), "");
        due("the export key", x.keyHex(2, 2), "");
        due("it was read", x.finish(2), 2);
        due("nothing to accept", x.accept(2), 2);
    }

    private static void right(Suite suite) {
        suite.test("11: 0 for a forger who knows the password, but 5 by the server", () ->
            dueRight(evaluated(), Oracle.open(S), Oracle.open(Y)));
        suite.test("11: 0: S' and the public of y are one point", () ->
            dueRight(evaluated(), Oracle.open(BigInteger.ONE), Oracle.open(BigInteger.ONE)));
        suite.test("11: 4: a MAC that is wrong in any of its bytes", () -> {
            for (int i = 256; i < 320; i += 9) {
                Both x = answered();
                forge(x, evaluated(), Oracle.open(S), Oracle.open(Y));
                x.tamper(2, 2, i, 64);
                dueFault(x, 4);
            }
        });
        suite.test("11: 4: a MAC of 64 bytes of 0", () -> {
            Both x = answered();
            forge(x, evaluated(), Oracle.open(S), Oracle.open(Y));
            x.put(2, 2, 256, new byte[64]);
            dueFault(x, 4);
        });
    }

    private static void noPoints(Suite suite) {
        for (byte[] none : new byte[][] {NO_POINT, NOT_BELOW_P}) {
            String name = Both.digits(none).substring(0, 4);
            suite.test("11: 1: S' is no point, though the envelope opens: " + name, () -> {
                Both x = answered();
                forge(x, evaluated(), none, Oracle.open(Y));
                dueFault(x, 1);
            });
            suite.test("11: 1: the server's public of y is no point: " + name, () -> {
                Both x = answered();
                forge(x, evaluated(), Oracle.open(S), none);
                dueFault(x, 1);
            });
            suite.test("11: 1: neither is a point: " + name, () -> {
                Both x = answered();
                forge(x, evaluated(), none, none);
                dueFault(x, 1);
            });
        }
    }

    private static void order(Suite suite) {
        suite.test("11: the first point is asked ahead of all", () -> {
            Both x = answered();
            forge(x, evaluated(), NO_POINT, NO_POINT);
            x.put(2, 2, 0, NO_POINT);
            x.tamper(2, 2, 150, 1);
            dueFault(x, 1);
        });
        suite.test("11: the envelope's MAC is asked ahead of S'", () -> {
            for (int i : new int[] {128, 191}) {
                Both x = answered();
                forge(x, evaluated(), NO_POINT, Oracle.open(Y));
                x.tamper(2, 2, i, 1);
                dueFault(x, 3);
            }
        });
        suite.test("11: the envelope's nonce and S' are under its MAC", () -> {
            for (int i : new int[] {64, 95, 96, 127}) {
                Both x = answered();
                forge(x, evaluated(), Oracle.open(S), Oracle.open(Y));
                x.tamper(2, 2, i, 1);
                dueFault(x, 3);
            }
        });
        suite.test("11: the server's MAC is asked behind S'", () -> {
            Both x = answered();
            forge(x, evaluated(), NO_POINT, Oracle.open(Y));
            x.tamper(2, 2, 319, 1);
            dueFault(x, 1);
        });
    }

    private static void zeros(Suite suite) {
        suite.test("11: 32 bytes of 0 are the point 0: evaluated", () ->
            dueRight(ZERO, Oracle.open(S), Oracle.open(Y)));
        suite.test("11: 32 bytes of 0 are the point 0: S'", () -> dueRight(evaluated(), ZERO, Oracle.open(Y)));
        suite.test("11: 32 bytes of 0 are the point 0: the public of y", () ->
            dueRight(evaluated(), Oracle.open(S), ZERO));
        suite.test("11: 32 bytes of 0 are the point 0: all three", () -> dueRight(ZERO, ZERO, ZERO));
    }
}
