import java.io.ByteArrayOutputStream;
import java.math.BigInteger;
import java.nio.charset.StandardCharsets;
import java.security.MessageDigest;
import java.security.NoSuchAlgorithmException;
import java.util.Arrays;
import java.util.HashMap;
import java.util.Map;
import java.util.NoSuchElementException;

/**
 * The document once more, word by word and without a thought of speed or room, on the numbers of the Java library:
 * what PasswordGate answers is held against what this answers. Points are fractions (X / Z, Y / Z) under the
 * document's own law of addition, so that nothing of the program's way of reckoning stands here too.
 */
final class Oracle {
    static final BigInteger TWO = BigInteger.TWO;
    static final BigInteger ONE = BigInteger.ONE;
    static final BigInteger ZERO = BigInteger.ZERO;
    static final BigInteger P = TWO.pow(255).subtract(BigInteger.valueOf(19));
    static final BigInteger Q = TWO.pow(252).add(new BigInteger("27742317777372353535851937790883648493"));
    static final BigInteger I = TWO.modPow(P.subtract(ONE).shiftRight(2), P);
    static final BigInteger D =
        BigInteger.valueOf(-121665).multiply(BigInteger.valueOf(121666).modInverse(P)).mod(P);
    static final BigInteger E = root(ONE, D.negate().subtract(ONE).mod(P)).r;
    static final BigInteger G = P.subtract(root(D.negate().subtract(ONE).mod(P), ONE).r);
    static final Spot BASE = base();
    static final String DIFFIE = "OPAQUE-DeriveDiffieHellmanKeyPair";

    record Root(boolean good, BigInteger r) { }

    record Spot(BigInteger x, BigInteger y, BigInteger z) { }

    record Multiple(BigInteger k, Spot p) { }

    /** The tests bring many gates to the same states, so what was reckoned once is kept. */
    private static final Map<Multiple, Spot> KNOWN = new HashMap<>();

    // ---- bytes

    static byte[] join(Object... parts) {
        ByteArrayOutputStream out = new ByteArrayOutputStream();
        for (Object part : parts) {
            byte[] bytes = part instanceof String s ? s.getBytes(StandardCharsets.ISO_8859_1) : (byte[]) part;
            out.write(bytes, 0, bytes.length);
        }
        return out.toByteArray();
    }

    static byte[] number(int n, int v) {
        byte[] out = new byte[n];
        for (int i = 0; i < n; i++) {
            out[n - 1 - i] = (byte) (i < 4 ? v >>> (8 * i) : 0);
        }
        return out;
    }

    static byte[] cut(byte[] a, int from, int to) {
        return Arrays.copyOfRange(a, from, to);
    }

    static byte[] xor(byte[] a, byte[] b) {
        byte[] out = a.clone();
        for (int i = 0; i < out.length; i++) {
            out[i] ^= b[i];
        }
        return out;
    }

    static BigInteger read(byte[] lowestFirst) {
        byte[] turned = new byte[lowestFirst.length];
        for (int i = 0; i < turned.length; i++) {
            turned[i] = lowestFirst[turned.length - 1 - i];
        }
        return new BigInteger(1, turned);
    }

    static byte[] write(BigInteger a) {
        byte[] out = new byte[32];
        for (int i = 0; i < 32; i++) {
            out[i] = a.shiftRight(8 * i).byteValue();
        }
        return out;
    }

    // ---- hashes

    static byte[] hash(byte[] a) {
        try {
            return MessageDigest.getInstance("SHA-512").digest(a);
        } catch (NoSuchAlgorithmException e) {
            throw new IllegalStateException(e);
        }
    }

    static byte[] mac(byte[] key, byte[] a) {
        byte[] padded = Arrays.copyOf(key, 128);
        byte[] outer = new byte[128];
        byte[] inner = new byte[128];
        Arrays.fill(outer, (byte) 92);
        Arrays.fill(inner, (byte) 54);
        return hash(join(xor(padded, outer), hash(join(xor(padded, inner), a))));
    }

    static byte[] extract(byte[] a) {
        return mac(new byte[64], a);
    }

    static byte[] expand(byte[] key, byte[] info, int n) {
        byte[] all = new byte[0];
        byte[] last = new byte[0];
        for (int i = 1; all.length < n; i++) {
            last = mac(key, join(last, info, number(1, i)));
            all = join(all, last);
        }
        return Arrays.copyOf(all, n);
    }

    static byte[] stretch(byte[] a, byte[] tag) {
        byte[] longTag = join(tag, number(1, tag.length));
        byte[] b0 = hash(join(new byte[128], a, number(2, 64), number(1, 0), longTag));
        return hash(join(b0, number(1, 1), longTag));
    }

    static byte[] label(byte[] key, String name, byte[] a) {
        byte[] info = join(number(2, 64), number(1, 7 + name.length()), "OPAQUE-", name, number(1, a.length), a);
        return expand(key, info, 64);
    }

    // ---- the field and the group

    static boolean odd(BigInteger a) {
        return a.mod(P).testBit(0);
    }

    static BigInteger times(BigInteger... all) {
        BigInteger product = ONE;
        for (BigInteger a : all) {
            product = product.multiply(a).mod(P);
        }
        return product;
    }

    static Root root(BigInteger u, BigInteger v) {
        BigInteger power = times(u, v.modPow(BigInteger.valueOf(7), P)).modPow(P.subtract(BigInteger.valueOf(5)).shiftRight(3), P);
        BigInteger r = times(u, v, v, v, power);
        BigInteger c = times(v, r, r);
        if (c.equals(u.negate().mod(P)) || c.equals(times(u.negate(), I))) {
            r = times(I, r);
        }
        if (odd(r)) {
            r = r.negate().mod(P);
        }
        return new Root(c.equals(u.mod(P)) || c.equals(u.negate().mod(P)), r);
    }

    static Spot base() {
        BigInteger y = times(BigInteger.valueOf(4), BigInteger.valueOf(5).modInverse(P));
        BigInteger squared = times(y, y);
        BigInteger below = ONE.add(times(D, squared));
        BigInteger x = root(squared.subtract(ONE).mod(P), below.mod(P)).r;
        return new Spot(x, y, ONE);
    }

    static Spot sum(Spot p, Spot q) {
        BigInteger zz = times(p.z, q.z);
        BigInteger square = times(zz, zz);
        BigInteger dxy = times(D, p.x, q.x, p.y, q.y);
        BigInteger plus = square.add(dxy);
        BigInteger minus = square.subtract(dxy);
        BigInteger x = times(p.x, q.y).add(times(p.y, q.x));
        BigInteger y = times(p.y, q.y).add(times(p.x, q.x));
        return new Spot(times(zz, x, minus), times(zz, y, plus), times(plus, minus));
    }

    static Spot times(BigInteger k, Spot p) {
        return KNOWN.computeIfAbsent(new Multiple(k, p), Oracle::multiply);
    }

    private static Spot multiply(Multiple asked) {
        BigInteger k = asked.k;
        Spot p = asked.p;
        Spot out = new Spot(ZERO, ONE, ONE);
        for (int i = 255; i >= 0; i--) {
            out = sum(out, out);
            if (k.testBit(i)) {
                out = sum(out, p);
            }
        }
        return out;
    }

    static byte[] code(Spot p) {
        BigInteger bigX = times(p.x, p.z.modInverse(P));
        BigInteger bigY = times(p.y, p.z.modInverse(P));
        BigInteger t = times(bigX, bigY);
        BigInteger sides = times(ONE.add(bigY), ONE.subtract(bigY));
        BigInteger r = root(ONE, times(sides, t, t)).r;
        BigInteger m = times(r, sides);
        BigInteger n = times(r, bigX, bigY);
        BigInteger z = times(m, n, t);
        BigInteger x = bigX;
        BigInteger y = bigY;
        BigInteger w = n;
        if (odd(times(t, z))) {
            x = times(I, bigY);
            y = times(I, bigX);
            w = times(m, E);
        }
        if (odd(times(x, z))) {
            y = y.negate();
        }
        BigInteger s = times(w, ONE.subtract(y));
        return write(odd(s) ? s.negate().mod(P) : s);
    }

    /** Null for NONE. */
    static Spot decode(byte[] a) {
        BigInteger s = read(a);
        if (s.compareTo(P) >= 0 || odd(s)) {
            return null;
        }
        BigInteger u = ONE.subtract(times(s, s));
        BigInteger v = ONE.add(times(s, s));
        BigInteger f = times(D, u, u).negate().subtract(times(v, v)).mod(P);
        Root root = root(ONE, times(f, v, v));
        if (!root.good) {
            return null;
        }
        BigInteger x = times(TWO, s, root.r, v);
        x = odd(x) ? x.negate().mod(P) : x;
        BigInteger y = times(u, root.r, root.r, v, f);
        return odd(times(x, y)) || y.signum() == 0 ? null : new Spot(x, y, ONE);
    }

    static Spot mapHalf(byte[] a) {
        BigInteger t = read(a).mod(TWO.pow(255)).mod(P);
        BigInteger r = times(I, t, t);
        BigInteger u = times(r.add(ONE), ONE.subtract(times(D, D)));
        BigInteger v = times(ONE.negate().subtract(times(r, D)), r.add(D));
        Root root = root(u, v);
        BigInteger s = root.r;
        BigInteger c = ONE.negate();
        if (!root.good) {
            s = times(s, t);
            s = odd(s) ? s : s.negate().mod(P);
            c = r;
        }
        BigInteger less = D.subtract(ONE);
        BigInteger n = times(c, r.subtract(ONE), less, less).subtract(v);
        BigInteger above = times(TWO, s, v);
        BigInteger below = times(n, G);
        BigInteger minus = ONE.subtract(times(s, s));
        BigInteger plus = ONE.add(times(s, s));
        return new Spot(times(above, plus), times(minus, below), times(below, plus));
    }

    static Spot map(byte[] a) {
        return sum(mapHalf(cut(a, 0, 32)), mapHalf(cut(a, 32, 64)));
    }

    static byte[] context(String name) {
        return join(name, "OPRFV1-", number(1, 0), "-ristretto255-SHA512");
    }

    static Spot group(byte[] a) {
        return map(stretch(a, context("HashToGroup-")));
    }

    static BigInteger scalar(byte[] a) {
        return read(a).mod(Q);
    }

    static BigInteger key(byte[] a, String info) {
        return scalar(stretch(join(a, number(2, info.length()), info, number(1, 0)), context("DeriveKeyPair")));
    }

    static byte[] open(BigInteger secret) {
        return code(times(secret, BASE));
    }

    // ---- client and server

    static final class Record {
        byte[] clientPublic;
        byte[] maskKey;
        byte[] envelope;
    }

    static final class Talk {
        int user;
        byte[] password;
        BigInteger blind;
        BigInteger x;
        byte[] sent;
        byte[][] wires = new byte[4][];
        boolean[] read = new boolean[4];
        byte[] awaitedMac;
        byte[] serverKey;
        byte[][] keys = new byte[3][];
    }

    /** What both sides make of the exchange. */
    static final class Keys {
        final byte[] serverMac;
        final byte[] clientMac;
        final byte[] session;

        Keys(byte[] preamble, byte[] joined) {
            byte[] p = extract(joined);
            byte[] h = hash(preamble);
            byte[] k = label(p, "HandshakeSecret", h);
            serverMac = mac(label(k, "ServerMAC", new byte[0]), h);
            clientMac = mac(label(k, "ClientMAC", new byte[0]), hash(join(preamble, serverMac)));
            session = label(p, "SessionKey", h);
        }
    }

    /** What the password and the nonce open. */
    static final class Opened {
        final BigInteger key;
        final byte[] clientPublic;
        final byte[] envelope;
        final byte[] export;

        Opened(byte[] r, byte[] n, byte[] serverPublic) {
            key = key(expand(r, join(n, "PrivateKey"), 32), DIFFIE);
            clientPublic = open(key);
            byte[] told = join(n, serverPublic, number(2, 32), serverPublic, number(2, 32), clientPublic);
            envelope = join(n, mac(expand(r, join(n, "AuthKey"), 64), told));
            export = expand(r, join(n, "ExportKey"), 64);
        }
    }

    private final int seed;
    private int chances;
    private byte[] text = new byte[0];
    private byte[] result = new byte[0];
    private final byte[] secret;
    private final BigInteger serverKey;
    private final byte[] serverPublic;
    private final Record[] records = new Record[8];
    private final Talk[] talks = new Talk[4];

    Oracle(int seed) {
        this.seed = seed;
        secret = chance();
        serverKey = key(cut(chance(), 0, 32), DIFFIE);
        serverPublic = open(serverKey);
    }

    private byte[] chance() {
        return hash(join("chance", number(4, seed), number(4, chances++)));
    }

    private byte[] nonce() {
        return cut(chance(), 0, 32);
    }

    private BigInteger chanceScalar() {
        BigInteger a = scalar(chance());
        return a.signum() == 0 ? ONE : a;
    }

    private BigInteger userKey(int user) {
        return key(expand(secret, join("user", number(1, user), "OprfKey"), 32), "OPAQUE-DeriveKeyPair");
    }

    static byte[] second(byte[] password, byte[] z) {
        byte[] o = hash(join(number(2, password.length), password, number(2, 32), z, "Finalize"));
        return extract(join(o, o));
    }

    private byte[] useText() {
        byte[] used = text;
        text = new byte[0];
        return used;
    }

    boolean feed(int a, int b, int c, int d, int e) {
        if (text.length + 20 > 200) {
            return false;
        }
        text = join(text, number(4, a), number(4, b), number(4, c), number(4, d), number(4, e));
        return true;
    }

    boolean end(int n) {
        if (n < 0 || n > text.length) {
            return false;
        }
        text = Arrays.copyOf(text, n);
        return true;
    }

    int hash() {
        result = hash(useText());
        return 64;
    }

    int group() {
        result = code(group(useText()));
        return 32;
    }

    int times() {
        byte[] used = useText();
        Spot p = used.length < 64 ? null : decode(cut(used, 32, 64));
        if (p == null) {
            return -1;
        }
        result = code(times(scalar(cut(used, 0, 32)), p));
        return 32;
    }

    int result(int i) {
        return at(result, i);
    }

    private static int at(byte[] a, int i) {
        if (a == null || i < 0 || i >= a.length) {
            throw new NoSuchElementException();
        }
        return a[i] & 255;
    }

    int enroll(int user) {
        byte[] password = useText();
        if (user < 0 || user > 7) {
            return -1;
        }
        byte[] r = second(password, code(times(userKey(user), group(password))));
        Opened opened = new Opened(r, nonce(), serverPublic);
        records[user] = new Record();
        records[user].clientPublic = opened.clientPublic;
        records[user].maskKey = expand(r, join("MaskingKey"), 64);
        records[user].envelope = opened.envelope;
        return 0;
    }

    int begin(int session, int user) {
        byte[] password = useText();
        if (session < 0 || session > 3 || user < 0 || user > 7) {
            return -1;
        }
        Talk talk = new Talk();
        talks[session] = talk;
        talk.user = user;
        talk.password = password;
        talk.blind = chanceScalar();
        byte[] nonce = nonce();
        talk.x = chanceScalar();
        talk.sent = join(code(times(talk.blind, group(password))), nonce, open(talk.x));
        talk.wires[1] = talk.sent.clone();
        return 0;
    }

    /** Null if the message is not there or was read. */
    private Talk reading(int session, int message) {
        Talk talk = talks[session];
        if (talk == null || talk.wires[message] == null || talk.read[message]) {
            return null;
        }
        talk.read[message] = true;
        return talk;
    }

    /** The document's context is empty; that of the published vectors is not. */
    static byte[] preamble(String context, byte[] clientPublic, byte[] first, byte[] serverPublic, byte[] second) {
        return join("OPAQUEv1-", number(2, context.length()), context, number(2, 32), clientPublic, first,
            number(2, 32), serverPublic, cut(second, 0, 256));
    }

    /** What the client of a session knows. */
    Talk talk(int session) {
        return talks[session];
    }

    int answer(int session) {
        if (session < 0 || session > 3) {
            return -1;
        }
        Talk talk = reading(session, 1);
        if (talk == null) {
            return 2;
        }
        byte[] first = talk.wires[1].clone();
        Spot blinded = decode(cut(first, 0, 32));
        Spot x = decode(cut(first, 64, 96));
        if (blinded == null || x == null) {
            return 1;
        }
        Record record = records[talk.user];
        if (record == null) {
            record = new Record();
            record.maskKey = chance();
            record.clientPublic = open(chanceScalar());
            record.envelope = new byte[96];
        }
        byte[] m = nonce();
        byte[] nonce = nonce();
        BigInteger y = chanceScalar();
        byte[] pad = expand(record.maskKey, join(m, "CredentialResponsePad"), 128);
        byte[] second = join(code(times(userKey(talk.user), blinded)), m,
            xor(join(serverPublic, record.envelope), pad), nonce, open(y));
        byte[] joined = join(code(times(y, x)), code(times(serverKey, x)),
            code(times(y, decode(record.clientPublic))));
        Keys keys = new Keys(preamble("", record.clientPublic, first, serverPublic, second), joined);
        talk.wires[2] = join(second, keys.serverMac);
        talk.awaitedMac = keys.clientMac;
        talk.serverKey = keys.session;
        return 0;
    }

    int finish(int session) {
        if (session < 0 || session > 3) {
            return -1;
        }
        Talk talk = reading(session, 2);
        if (talk == null) {
            return 2;
        }
        byte[] second = talk.wires[2].clone();
        Spot evaluated = decode(cut(second, 0, 32));
        if (evaluated == null) {
            return 1;
        }
        byte[] r = second(talk.password, code(times(talk.blind.modInverse(Q), evaluated)));
        byte[] pad = expand(expand(r, join("MaskingKey"), 64), join(cut(second, 32, 64), "CredentialResponsePad"), 128);
        byte[] clear = xor(cut(second, 64, 192), pad);
        byte[] publicOfServer = cut(clear, 0, 32);
        Opened opened = new Opened(r, cut(clear, 32, 64), publicOfServer);
        if (!Arrays.equals(opened.envelope, cut(clear, 32, 128))) {
            return 3;
        }
        Spot s = decode(publicOfServer);
        Spot y = decode(cut(second, 224, 256));
        if (s == null || y == null) {
            return 1;
        }
        byte[] joined = join(code(times(talk.x, y)), code(times(talk.x, s)), code(times(opened.key, y)));
        Keys keys = new Keys(preamble("", opened.clientPublic, talk.sent, publicOfServer, second), joined);
        if (!Arrays.equals(keys.serverMac, cut(second, 256, 320))) {
            return 4;
        }
        talk.wires[3] = keys.clientMac.clone();
        talk.keys[0] = keys.session;
        talk.keys[2] = opened.export;
        return 0;
    }

    int accept(int session) {
        if (session < 0 || session > 3) {
            return -1;
        }
        Talk talk = reading(session, 3);
        if (talk == null) {
            return 2;
        }
        if (!Arrays.equals(talk.wires[3], talk.awaitedMac)) {
            return 5;
        }
        talk.keys[1] = talk.serverKey;
        return 0;
    }

    private byte[] message(int session, int message) {
        if (session < 0 || session > 3 || message < 1 || message > 3 || talks[session] == null) {
            return null;
        }
        return talks[session].wires[message];
    }

    int wire(int session, int message, int i) {
        return at(message(session, message), i);
    }

    boolean tamper(int session, int message, int i, int mask) {
        byte[] bytes = message(session, message);
        if (bytes == null || i < 0 || i >= bytes.length) {
            return false;
        }
        bytes[i] ^= (byte) mask;
        return true;
    }

    int key(int session, int side, int i) {
        if (session < 0 || session > 3 || side < 0 || side > 2 || talks[session] == null) {
            throw new NoSuchElementException();
        }
        return at(talks[session].keys[side], i);
    }
}
