import java.math.BigInteger;
import java.util.function.Consumer;

/**
 * The sentences under "Terms" that only sessions show: each is reckoned here by itself, from the seed's chances and
 * from what stands on the wire, so that the oracle's own run of calls is held against them too.
 */
public final class TermsTest {
    private static final int SEED = 0x01020384;
    private static final int USER = 5;
    /** The chances 0 and 1 are the server's, 2 is the nonce of the one enrolling in a talk, 3 .. 5 its message 1. */
    private static final int ENROLLED = 2;
    private static final int BEGUN = 3;
    private static final int ANSWERED = 6;

    public static void main(String[] args) {
        Suite suite = new Suite("TermsTest", args);
        bytes(suite);
        chance(suite);
        noChance(suite);
        server(suite);
        enrolling(suite);
        messages(suite);
        notEnrolled(suite);
        keys(suite);
        suite.close();
    }

    private static void due(String what, long got, long want) {
        Both.due(what, got, want);
    }

    private static void due(String what, String got, byte[] want) {
        Both.due(what, got, Both.digits(want));
    }

    private static byte[] chanceOf(int seed, int k) {
        return Oracle.hash(Oracle.join("chance", Oracle.number(4, seed), Oracle.number(4, k)));
    }

    private static byte[] nonce(int k) {
        return Oracle.cut(chanceOf(SEED, k), 0, 32);
    }

    private static BigInteger scalar(int k) {
        return Oracle.scalar(chanceOf(SEED, k));
    }

    private static BigInteger serverKey() {
        return Oracle.key(nonce(1), "OPAQUE-DeriveDiffieHellmanKeyPair");
    }

    private static byte[] serverPublic() {
        return Oracle.open(serverKey());
    }

    private static BigInteger userKey(int user) {
        byte[] seed = Oracle.expand(chanceOf(SEED, 0), Oracle.join("user", Oracle.number(1, user), "OprfKey"), 32);
        return Oracle.key(seed, "OPAQUE-DeriveKeyPair");
    }

    /** SECOND, for a password that nobody blinded. */
    private static byte[] second(String password, int user) {
        byte[] letters = Oracle.join(password);
        byte[] z = Oracle.code(Oracle.times(userKey(user), Oracle.group(letters)));
        byte[] o = Oracle.hash(Oracle.join(Oracle.number(2, letters.length), letters, Oracle.number(2, 32), z, "Finalize"));
        return Oracle.extract(Oracle.join(o, o));
    }

    private static Both fresh() {
        return new Both("a gate", SEED);
    }

    private static void enroll(Both x, int user, String password) {
        x.text(password);
        due("enroll", x.enroll(user), 0);
    }

    private static void begin(Both x, int session, int user, String password) {
        x.text(password);
        due("begin", x.begin(session, user), 0);
    }

    /** Session 1 of a user who was enrolled with the same password, up to the end. */
    private static Both talk(String password) {
        Both x = fresh();
        enroll(x, USER, password);
        begin(x, 1, USER, password);
        due("answer", x.answer(1), 0);
        due("finish", x.finish(1), 0);
        due("accept", x.accept(1), 0);
        return x;
    }

    /** Bytes of a message on the wire, as digits. */
    private static String part(Both x, int session, int message, int from, int to) {
        return x.wireHex(session, message).substring(2 * from, 2 * to);
    }

    private static byte[] wire(Both x, int session, int message) {
        return Both.bytes(x.wireHex(session, message));
    }

    /** What bytes 64 .. 191 of message 2 are under a mask key. */
    private static byte[] unmasked(Both x, int session, byte[] maskKey) {
        byte[] message = wire(x, session, 2);
        byte[] info = Oracle.join(Oracle.cut(message, 32, 64), "CredentialResponsePad");
        return Oracle.xor(Oracle.cut(message, 64, 192), Oracle.expand(maskKey, info, 128));
    }

    private static byte[] maskKey(String password, int user) {
        return Oracle.expand(second(password, user), Oracle.join("MaskingKey"), 64);
    }

    private static void bytes(Suite suite) {
        suite.test("BYTES: numbers of the field and scalars in bytes are 32, the lowest first", () -> {
            Both x = fresh();
            // 256, times the point whose number is that of BASE
            x.hex("0001" + "00".repeat(30) + Both.digits(Oracle.open(BigInteger.ONE)));
            due("times", x.times(), 32);
            due("256 times BASE", x.resultHex(), Oracle.open(BigInteger.valueOf(256)));
        });
        suite.test("POINTS: a times (b times a point) is (a b modulo q) times it", () -> {
            BigInteger a = scalar(100);
            BigInteger b = scalar(101);
            Both x = fresh();
            x.hex(Both.digits(Oracle.write(b)) + Both.digits(Oracle.open(BigInteger.TWO)));
            x.times();
            x.hex(Both.digits(Oracle.write(a)) + x.resultHex());
            x.times();
            String twice = x.resultHex();
            BigInteger product = a.multiply(b).mod(Oracle.Q);
            x.hex(Both.digits(Oracle.write(product)) + Both.digits(Oracle.open(BigInteger.TWO)));
            x.times();
            Both.due("at once", x.resultHex(), twice);
        });
    }

    private static void chance(Suite suite) {
        suite.test("CHANCE: HASH (\"chance\" | #4(the seed) | #4(k)), its first 32 bytes a nonce", () -> {
            for (int seed : new int[] {0, 1, -1, 255, 256, 0x01020304, Integer.MIN_VALUE, Integer.MAX_VALUE}) {
                Both x = new Both("a gate", seed);
                x.begin(0, 0);
                due("chance 3", part(x, 0, 1, 32, 64), Oracle.cut(chanceOf(seed, 3), 0, 32));
            }
        });
        suite.test("CHANCE: a scalar is SCALAR of all 64", () -> {
            Both x = fresh();
            x.begin(0, 0);
            BigInteger all = Oracle.read(chanceOf(SEED, 4)).mod(Oracle.Q);
            due("chance 4", part(x, 0, 1, 64, 96), Oracle.open(all));
        });
        suite.test("CHANCE: from 0, through all users and sessions", () -> {
            Both x = fresh();
            enroll(x, 0, "zero");
            enroll(x, 7, "seven");
            begin(x, 3, 7, "seven");
            due("two enrolled", part(x, 3, 1, 32, 64), nonce(5));
            begin(x, 0, 4, "four");
            due("a session begun", part(x, 0, 1, 32, 64), nonce(8));
            due("answer", x.answer(0), 0);
            due("m of one who is not enrolled", part(x, 0, 2, 32, 64), nonce(12));
            due("answer", x.answer(3), 0);
            due("m of one who is", part(x, 3, 2, 32, 64), nonce(15));
            begin(x, 3, 0, "zero");
            due("begun anew", part(x, 3, 1, 32, 64), nonce(19));
        });
        suite.test("CHANCE: k in four bytes", () -> {
            Both x = fresh();
            for (int i = 0; i < 90; i++) {
                x.begin(i & 3, i & 7);
            }
            due("chance 270", part(x, 89 & 3, 1, 32, 64), nonce(270));
        });
    }

    private static void dueNoChance(String what, Consumer<Both> call) {
        Both x = talk("secret");
        call.accept(x);
        begin(x, 0, 0, "next");
        due("behind " + what, part(x, 0, 1, 32, 64), nonce(ANSWERED + 4));
    }

    private static void noChance(Suite suite) {
        suite.test("CHANCE: enroll, begin and answer call it, and no other call", () -> {
            dueNoChance("finish and accept", x -> { });
            dueNoChance("feed and end", x -> x.text("text"));
            dueNoChance("hash", Both::hash);
            dueNoChance("group", Both::group);
            dueNoChance("times", x -> {
                x.hex("02" + "00".repeat(31) + Both.digits(Oracle.open(BigInteger.TWO)));
                due("times", x.times(), 32);
            });
            dueNoChance("times that is NONE", x -> due("times", x.times(), -1));
            dueNoChance("tamper", x -> x.tamper(1, 1, 0, 1));
            dueNoChance("result, wire and key", Both::lookAll);
        });
        suite.test("CHANCE: refused calls call none", () -> {
            dueNoChance("enroll", x -> due("enroll", x.enroll(8), -1));
            dueNoChance("begin", x -> due("begin", x.begin(4, 0), -1));
            dueNoChance("begin", x -> due("begin", x.begin(0, 8), -1));
            dueNoChance("answer", x -> due("answer", x.answer(1), 2));
            dueNoChance("finish", x -> due("finish", x.finish(1), 2));
            dueNoChance("accept", x -> due("accept", x.accept(1), 2));
        });
    }

    private static void server(Suite suite) {
        suite.test("THE SERVER: S is KEY (the first 32 bytes of chance 1, ..)", () ->
            due("S'", Both.digits(unmasked(talk("secret"), 1, maskKey("secret", USER))).substring(0, 64), serverPublic()));
        suite.test("THE SERVER: at first, whichever call needs its keys first", () -> {
            Both x = fresh();
            for (int i = 0; i < 5; i++) {
                begin(x, 0, USER, "secret");
            }
            due("answer", x.answer(0), 0);
            // fifteen chances by the clients, then the mask key
            due("S'", Both.digits(unmasked(x, 0, chanceOf(SEED, 17))).substring(0, 64), serverPublic());
            enroll(x, USER, "secret");
            begin(x, 0, USER, "secret");
            due("answer", x.answer(0), 0);
            due("S' later", Both.digits(unmasked(x, 0, maskKey("secret", USER))).substring(0, 64), serverPublic());
        });
        suite.test("THE SERVER: the key of user u, enrolled or not", () -> {
            for (int user = 0; user < 8; user++) {
                Both x = fresh();
                for (int enrolled = 0; enrolled < 2; enrolled++) {
                    begin(x, 0, user, "secret");
                    due("answer", x.answer(0), 0);
                    Oracle.Spot blinded = Oracle.decode(Oracle.cut(wire(x, 0, 1), 0, 32));
                    due("user " + user, part(x, 0, 2, 0, 32), Oracle.code(Oracle.times(userKey(user), blinded)));
                    enroll(x, user, "secret");
                }
            }
        });
    }

    private static void enrolling(Suite suite) {
        suite.test("SECOND and the mask key: passwords of every kind of length", () -> {
            for (int n : new int[] {0, 1, 19, 20, 21, 67, 68, 127, 128, 199, 200}) {
                String password = "p".repeat(n);
                due(n + " bytes", Both.digits(unmasked(talk(password), 1, maskKey(password, USER))).substring(0, 64),
                    serverPublic());
            }
        });
        suite.test("ENROLLING: the envelope is n | MAC (.., n | S' | #2(32) | S' | #2(32) | U')", () -> {
            Both x = talk("secret");
            byte[] n = nonce(ENROLLED);
            byte[] r = second("secret", USER);
            byte[] told = Oracle.join(n, serverPublic(), Oracle.number(2, 32), serverPublic(), Oracle.number(2, 32),
                Oracle.open(clientKey(r, n)));
            byte[] mac = Oracle.mac(Oracle.expand(r, Oracle.join(n, "AuthKey"), 64), told);
            due("envelope", Both.digits(unmasked(x, 1, maskKey("secret", USER))).substring(64), Oracle.join(n, mac));
        });
        suite.test("ENROLLING: the export key is EXPAND (r, n | \"ExportKey\", 64)", () -> {
            Both x = talk("secret");
            byte[] info = Oracle.join(nonce(ENROLLED), "ExportKey");
            due("export key", x.keyHex(1, 2), Oracle.expand(second("secret", USER), info, 64));
        });
    }

    /** The client's key U. */
    private static BigInteger clientKey(byte[] r, byte[] n) {
        return Oracle.key(Oracle.expand(r, Oracle.join(n, "PrivateKey"), 32), "OPAQUE-DeriveDiffieHellmanKeyPair");
    }

    private static void messages(Suite suite) {
        suite.test("Message 1: the CODE of b times GROUP (password) | nonce | the public of x", () -> {
            for (String password : new String[] {"", "secret", "x".repeat(200)}) {
                Both x = talk(password);
                Oracle.Spot blinded = Oracle.times(scalar(BEGUN), Oracle.group(Oracle.join(password)));
                due("message 1", x.wireHex(1, 1),
                    Oracle.join(Oracle.code(blinded), nonce(BEGUN + 1), Oracle.open(scalar(BEGUN + 2))));
            }
        });
        suite.test("Message 2: by chance a nonce m, a nonce, a scalar y, each in its place", () -> {
            Both x = talk("secret");
            due("m", part(x, 1, 2, 32, 64), nonce(ANSWERED));
            due("nonce", part(x, 1, 2, 192, 224), nonce(ANSWERED + 1));
            due("the public of y", part(x, 1, 2, 224, 256), Oracle.open(scalar(ANSWERED + 2)));
        });
        suite.test("Message 2: (1 / b) times its first point is the user's key times GROUP (password)", () -> {
            Both x = talk("secret");
            Oracle.Spot evaluated = Oracle.decode(Oracle.cut(wire(x, 1, 2), 0, 32));
            due("z", Both.digits(Oracle.code(Oracle.times(scalar(BEGUN).modInverse(Oracle.Q), evaluated))),
                Oracle.code(Oracle.times(userKey(USER), Oracle.group(Oracle.join("secret")))));
        });
    }

    private static void notEnrolled(Suite suite) {
        // nobody is enrolled here, so that all chances come one earlier; then mask key, U', m, nonce, y
        int first = ANSWERED - 1;
        suite.test("Message 2 for one who is not enrolled: S' and an envelope of 0s under all 64 bytes of a chance", () -> {
            Both x = nobody();
            due("unmasked", Both.digits(unmasked(x, 1, chanceOf(SEED, first))),
                Oracle.join(serverPublic(), new byte[96]));
        });
        suite.test("Message 2 for one who is not enrolled: the record first, then the nonces and y", () -> {
            Both x = nobody();
            due("m", part(x, 1, 2, 32, 64), nonce(first + 2));
            due("nonce", part(x, 1, 2, 192, 224), nonce(first + 3));
            due("the public of y", part(x, 1, 2, 224, 256), Oracle.open(scalar(first + 4)));
        });
        suite.test("Message 2 for one who is not enrolled: U' is the public of a scalar by chance", () -> {
            Both x = nobody();
            byte[] clientPublic = Oracle.open(scalar(first + 1));
            byte[] h = Oracle.hash(preamble(x, clientPublic));
            byte[] p = Oracle.extract(joined(x, scalar(first + 4), clientPublic));
            due("server's MAC", part(x, 1, 2, 256, 320), serverMac(p, h));
        });
    }

    private static Both nobody() {
        Both x = fresh();
        begin(x, 1, USER, "secret");
        due("answer", x.answer(1), 0);
        return x;
    }

    private static byte[] preamble(Both x, byte[] clientPublic) {
        return Oracle.join("OPAQUEv1-", Oracle.number(2, 0), Oracle.number(2, 32), clientPublic, wire(x, 1, 1),
            Oracle.number(2, 32), serverPublic(), Oracle.cut(wire(x, 1, 2), 0, 256));
    }

    /** J, as the server has it. */
    private static byte[] joined(Both x, BigInteger y, byte[] clientPublic) {
        Oracle.Spot share = Oracle.decode(Oracle.cut(wire(x, 1, 1), 64, 96));
        return Oracle.join(Oracle.code(Oracle.times(y, share)), Oracle.code(Oracle.times(serverKey(), share)),
            Oracle.code(Oracle.times(y, Oracle.decode(clientPublic))));
    }

    /** J, as the client has it. */
    private static byte[] joinedByClient(Both x, BigInteger clientKey) {
        Oracle.Spot share = Oracle.decode(Oracle.cut(wire(x, 1, 2), 224, 256));
        BigInteger own = scalar(BEGUN + 2);
        return Oracle.join(Oracle.code(Oracle.times(own, share)),
            Oracle.code(Oracle.times(own, Oracle.decode(serverPublic()))),
            Oracle.code(Oracle.times(clientKey, share)));
    }

    private static byte[] label(byte[] key, String name, byte[] a) {
        return Oracle.expand(key, Oracle.join(Oracle.number(2, 64), Oracle.number(1, 7 + name.length()), "OPAQUE-", name,
            Oracle.number(1, a.length), a), 64);
    }

    private static byte[] serverMac(byte[] p, byte[] h) {
        return Oracle.mac(label(label(p, "HandshakeSecret", h), "ServerMAC", new byte[0]), h);
    }

    private static void keys(Suite suite) {
        Both x = talk("secret");
        BigInteger clientKey = clientKey(second("secret", USER), nonce(ENROLLED));
        byte[] clientPublic = Oracle.open(clientKey);
        byte[] preamble = preamble(x, clientPublic);
        byte[] h = Oracle.hash(preamble);
        byte[] j = joined(x, scalar(ANSWERED + 2), clientPublic);
        byte[] p = Oracle.extract(j);
        byte[] k = label(p, "HandshakeSecret", h);
        suite.test("J: client and server have the same three CODES", () ->
            due("J", Both.digits(joinedByClient(x, clientKey)), j));
        suite.test("server's MAC = MAC (LABEL (K, \"ServerMAC\", nothing), H)", () ->
            due("server's MAC", part(x, 1, 2, 256, 320), serverMac(p, h)));
        suite.test("client's MAC = MAC (LABEL (K, \"ClientMAC\", nothing), HASH (preamble | server's MAC))", () -> {
            byte[] told = Oracle.hash(Oracle.join(preamble, serverMac(p, h)));
            due("message 3", x.wireHex(1, 3), Oracle.mac(label(k, "ClientMAC", new byte[0]), told));
        });
        suite.test("the SESSION KEY is LABEL (P, \"SessionKey\", H), the client's and the server's", () -> {
            due("the client's", x.keyHex(1, 0), label(p, "SessionKey", h));
            due("the server's", x.keyHex(1, 1), label(p, "SessionKey", h));
        });
    }
}
