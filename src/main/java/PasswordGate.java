import java.util.NoSuchElementException;

/** A gate that passwords open without being told; the document's promises say what each call answers. */
public final class PasswordGate {
    public static final int NONE = -1;

    private static final int DONE = 0;
    private static final int NO_POINT = 1;
    private static final int NOT_DUE = 2;
    private static final int WRONG_ENVELOPE = 3;
    private static final int WRONG_SERVER = 4;
    private static final int WRONG_CLIENT = 5;

    private static final int USERS = 8;
    private static final int SESSIONS = 4;
    private static final int TEXT_ROOM = 200;
    private static final int FED = 20;

    private final Kit kit;
    private final Exchange exchange;
    private final Server server;
    private final Session[] sessions;
    private final Bytes text;
    private final Bytes outcome;

    public PasswordGate(int seed) {
        kit = new Kit(seed);
        exchange = new Exchange();
        server = new Server();
        sessions = new Session[SESSIONS];
        for (int i = 0; i < SESSIONS; i++) {
            sessions[i] = new Session();
        }
        text = new Bytes(TEXT_ROOM);
        outcome = new Bytes(64);
    }

    public boolean feed(int a, int b, int c, int d, int e) {
        if (text.length + FED > TEXT_ROOM) {
            return false;
        }
        text.putNumber(a, 4);
        text.putNumber(b, 4);
        text.putNumber(c, 4);
        text.putNumber(d, 4);
        text.putNumber(e, 4);
        return true;
    }

    public boolean end(int n) {
        if (n < 0 || n > text.length) {
            return false;
        }
        text.length = n;
        return true;
    }

    public int hash() {
        kit.digest.run(text, kit.wide);
        text.clear();
        outcome.clear();
        outcome.put(kit.wide, 0, 64);
        return outcome.length;
    }

    public int group() {
        kit.groupOf(text, kit.point);
        text.clear();
        showPoint();
        return outcome.length;
    }

    public int times() {
        boolean good = text.length >= 64 && kit.curve.decode(text.data, 32, kit.point);
        if (good) {
            kit.scalars.reduce(text.data, 32, kit.scalar);
            kit.curve.multiply(kit.point, kit.scalar, kit.point);
            showPoint();
        }
        text.clear();
        return good ? outcome.length : NONE;
    }

    public int result(int i) throws NoSuchElementException {
        if (!outcome.has(i)) {
            throw new NoSuchElementException();
        }
        return outcome.data[i] & 255;
    }

    public int enroll(int user) {
        boolean known = isUser(user);
        if (known) {
            server.register(kit, user, text);
        }
        text.clear();
        return known ? DONE : NONE;
    }

    public int begin(int session, int user) {
        boolean known = isSession(session) && isUser(user);
        if (known) {
            sessions[session].start(kit, user, text);
        }
        text.clear();
        return known ? DONE : NONE;
    }

    public int answer(int session) {
        if (!isSession(session)) {
            return NONE;
        }
        Session told = sessions[session];
        return told.take(0) ? server.reply(kit, exchange, told) : NOT_DUE;
    }

    public int finish(int session) {
        if (!isSession(session)) {
            return NONE;
        }
        Session told = sessions[session];
        return told.take(1) ? told.confirmServer(kit, exchange) : NOT_DUE;
    }

    public int accept(int session) {
        if (!isSession(session)) {
            return NONE;
        }
        Session told = sessions[session];
        return told.take(2) ? told.confirmClient() : NOT_DUE;
    }

    public int wire(int session, int message, int i) throws NoSuchElementException {
        if (!isOnWire(session, message, i)) {
            throw new NoSuchElementException();
        }
        return sessions[session].wires[message - 1].data[i] & 255;
    }

    public boolean tamper(int session, int message, int i, int mask) {
        if (!isOnWire(session, message, i)) {
            return false;
        }
        sessions[session].wires[message - 1].data[i] ^= (byte) mask;
        return true;
    }

    public int key(int session, int side, int i) throws NoSuchElementException {
        if (!isSession(session) || side < 0 || side > 2 || !sessions[session].keys[side].has(i)) {
            throw new NoSuchElementException();
        }
        return sessions[session].keys[side].data[i] & 255;
    }

    private void showPoint() {
        outcome.clear();
        kit.curve.code(kit.point, outcome);
    }

    private boolean isOnWire(int session, int message, int i) {
        return isSession(session) && message >= 1 && message <= 3 && sessions[session].wires[message - 1].has(i);
    }

    private static boolean isUser(int user) {
        return user >= 0 && user < USERS;
    }

    private static boolean isSession(int session) {
        return session >= 0 && session < SESSIONS;
    }

    /** A row of bytes that grows up to its room; a row that has none stands for what is not there. */
    private static final class Bytes {
        final byte[] data;
        int length;

        Bytes(int room) {
            data = new byte[room];
        }

        void clear() {
            length = 0;
        }

        boolean has(int i) {
            return i >= 0 && i < length;
        }

        void put(byte[] from, int at, int n) {
            if (at < 0 || n < 0 || at + n > from.length || length + n > data.length) {
                return;
            }
            System.arraycopy(from, at, data, length, n);
            length += n;
        }

        void putAll(Bytes other) {
            put(other.data, 0, other.length);
        }

        void putByte(int v) {
            if (length < data.length) {
                data[length] = (byte) v;
                length++;
            }
        }

        void putNumber(int v, int n) {
            for (int i = n - 1; i >= 0; i--) {
                putByte(v >>> (8 * i));
            }
        }

        void putText(String letters) {
            for (int i = 0; i < letters.length(); i++) {
                putByte(letters.charAt(i));
            }
        }

        void putZeros(int n) {
            for (int i = 0; i < n; i++) {
                putByte(0);
            }
        }

        /** True if the last bytes of the row, from one on, are those of the other row from another on. */
        boolean endsLike(int at, byte[] other, int otherAt) {
            if (at < 0 || otherAt < 0 || otherAt + length - at > other.length) {
                return false;
            }
            int unlike = 0;
            for (int i = at; i < length; i++) {
                unlike |= data[i] ^ other[otherAt + i - at];
            }
            return unlike == 0;
        }
    }

    /** HASH: SHA-512. */
    private static final class Digest {
        private static final int BLOCK = 128;
        private static final long[] FIRST = {
            0x6a09e667f3bcc908L, 0xbb67ae8584caa73bL, 0x3c6ef372fe94f82bL, 0xa54ff53a5f1d36f1L,
            0x510e527fade682d1L, 0x9b05688c2b3e6c1fL, 0x1f83d9abfb41bd6bL, 0x5be0cd19137e2179L,
        };
        private static final long[] ADDED = {
            0x428a2f98d728ae22L, 0x7137449123ef65cdL, 0xb5c0fbcfec4d3b2fL, 0xe9b5dba58189dbbcL,
            0x3956c25bf348b538L, 0x59f111f1b605d019L, 0x923f82a4af194f9bL, 0xab1c5ed5da6d8118L,
            0xd807aa98a3030242L, 0x12835b0145706fbeL, 0x243185be4ee4b28cL, 0x550c7dc3d5ffb4e2L,
            0x72be5d74f27b896fL, 0x80deb1fe3b1696b1L, 0x9bdc06a725c71235L, 0xc19bf174cf692694L,
            0xe49b69c19ef14ad2L, 0xefbe4786384f25e3L, 0x0fc19dc68b8cd5b5L, 0x240ca1cc77ac9c65L,
            0x2de92c6f592b0275L, 0x4a7484aa6ea6e483L, 0x5cb0a9dcbd41fbd4L, 0x76f988da831153b5L,
            0x983e5152ee66dfabL, 0xa831c66d2db43210L, 0xb00327c898fb213fL, 0xbf597fc7beef0ee4L,
            0xc6e00bf33da88fc2L, 0xd5a79147930aa725L, 0x06ca6351e003826fL, 0x142929670a0e6e70L,
            0x27b70a8546d22ffcL, 0x2e1b21385c26c926L, 0x4d2c6dfc5ac42aedL, 0x53380d139d95b3dfL,
            0x650a73548baf63deL, 0x766a0abb3c77b2a8L, 0x81c2c92e47edaee6L, 0x92722c851482353bL,
            0xa2bfe8a14cf10364L, 0xa81a664bbc423001L, 0xc24b8b70d0f89791L, 0xc76c51a30654be30L,
            0xd192e819d6ef5218L, 0xd69906245565a910L, 0xf40e35855771202aL, 0x106aa07032bbd1b8L,
            0x19a4c116b8d2d0c8L, 0x1e376c085141ab53L, 0x2748774cdf8eeb99L, 0x34b0bcb5e19b48a8L,
            0x391c0cb3c5c95a63L, 0x4ed8aa4ae3418acbL, 0x5b9cca4f7763e373L, 0x682e6ff3d6b2b8a3L,
            0x748f82ee5defb2fcL, 0x78a5636f43172f60L, 0x84c87814a1f0ab72L, 0x8cc702081a6439ecL,
            0x90befffa23631e28L, 0xa4506cebde82bde9L, 0xbef9a3f7b2c67915L, 0xc67178f2e372532bL,
            0xca273eceea26619cL, 0xd186b8c721c0c207L, 0xeada7dd6cde0eb1eL, 0xf57d4f7fee6ed178L,
            0x06f067aa72176fbaL, 0x0a637dc5a2c898a6L, 0x113f9804bef90daeL, 0x1b710b35131c471bL,
            0x28db77f523047d84L, 0x32caab7b40c72493L, 0x3c9ebe0a15c9bebcL, 0x431d67c49c100d4cL,
            0x4cc5d4becb3e42b6L, 0x597f299cfc657e2aL, 0x5fcb6fab3ad6faecL, 0x6c44198c4a475817L,
        };

        private final long[] state = new long[8];
        private final long[] words = new long[80];

        void run(Bytes a, byte[] to) {
            System.arraycopy(FIRST, 0, state, 0, 8);
            int blocks = (a.length + 16) / BLOCK + 1;
            for (int i = 0; i < blocks; i++) {
                load(a, i * BLOCK);
                if (i == blocks - 1) {
                    words[15] = 8L * a.length;
                }
                mix();
            }
            for (int i = 0; i < 64; i++) {
                to[i] = (byte) (state[i >> 3] >>> (56 - 8 * (i & 7)));
            }
        }

        private void load(Bytes a, int start) {
            for (int t = 0; t < 16; t++) {
                long word = 0;
                for (int at = start + 8 * t; at < start + 8 * t + 8; at++) {
                    int octet = at < a.length ? a.data[at] & 255 : at == a.length ? 128 : 0;
                    word = word << 8 | octet;
                }
                words[t] = word;
            }
        }

        private void mix() {
            for (int t = 16; t < 80; t++) {
                long u = words[t - 2];
                long v = words[t - 15];
                u = (u >>> 19 | u << 45) ^ (u >>> 61 | u << 3) ^ u >>> 6;
                v = (v >>> 1 | v << 63) ^ (v >>> 8 | v << 56) ^ v >>> 7;
                words[t] = u + words[t - 7] + v + words[t - 16];
            }
            long a = state[0], b = state[1], c = state[2], d = state[3];
            long e = state[4], f = state[5], g = state[6], h = state[7];
            for (int t = 0; t < 80; t++) {
                long turned = (e >>> 14 | e << 50) ^ (e >>> 18 | e << 46) ^ (e >>> 41 | e << 23);
                long x = h + turned + (e & f ^ ~e & g) + ADDED[t] + words[t];
                turned = (a >>> 28 | a << 36) ^ (a >>> 34 | a << 30) ^ (a >>> 39 | a << 25);
                long y = turned + (a & b ^ a & c ^ b & c);
                h = g;
                g = f;
                f = e;
                e = d + x;
                d = c;
                c = b;
                b = a;
                a = x + y;
            }
            state[0] += a;
            state[1] += b;
            state[2] += c;
            state[3] += d;
            state[4] += e;
            state[5] += f;
            state[6] += g;
            state[7] += h;
        }
    }

    /** MAC and what is made of it; every key has 64 bytes. */
    private static final class Keyed {
        private final Digest digest = new Digest();
        private final Bytes body = new Bytes(400);
        private final Bytes part = new Bytes(200);
        private final byte[] inner = new byte[64];
        private final byte[] block = new byte[64];
        private final byte[] noKey = new byte[64];

        void mac(byte[] key, Bytes a, byte[] to) {
            openBody(key, 54);
            body.put(a.data, 0, a.length);
            digest.run(body, inner);
            openBody(key, 92);
            body.put(inner, 0, 64);
            digest.run(body, to);
        }

        private void openBody(byte[] key, int mask) {
            body.clear();
            for (int i = 0; i < 128; i++) {
                body.putByte(i < 64 ? key[i] ^ mask : mask);
            }
        }

        void extract(Bytes a, byte[] to) {
            mac(noKey, a, to);
        }

        void expand(byte[] key, Bytes info, byte[] to, int n) {
            for (int made = 0; made < n; made += 64) {
                part.clear();
                if (made > 0) {
                    part.put(block, 0, 64);
                }
                part.putAll(info);
                part.putByte(made / 64 + 1);
                mac(key, part, block);
                System.arraycopy(block, 0, to, made, Math.min(64, n - made));
            }
        }

        /** LABEL with the first n bytes of a; its 64 bytes are the first block of an EXPAND. */
        void label(byte[] key, String name, byte[] a, int n, byte[] to) {
            part.clear();
            part.putNumber(64, 2);
            part.putByte(7 + name.length());
            part.putText("OPAQUE-");
            part.putText(name);
            part.putByte(n);
            part.put(a, 0, n);
            part.putByte(1);
            mac(key, part, to);
        }
    }

    /**
     * Numbers modulo p in ten limbs of 26 and 25 bits by turns: then sums of products of limbs fit into a long,
     * also when the factors are sums or differences of two or three numbers whose limbs were not carried.
     */
    private static final class Field {
        private static final int LIMBS = 10;
        private static final long LOW26 = (1L << 26) - 1;
        private static final long LOW25 = (1L << 25) - 1;
        static final long[] ONE = {1, 0, 0, 0, 0, 0, 0, 0, 0, 0};
        static final long[] I = {
            34513072, 25610706, 9377949, 3500415, 12389472, 33281959, 41962654, 31548777, 326685, 11406482,
        };

        private final long[] whole = new long[LIMBS];
        private final long[] check = new long[LIMBS];
        private final long[] low = new long[LIMBS];
        private final long[] mid = new long[LIMBS];
        private final long[] high = new long[LIMBS];
        private final long[] cube = new long[LIMBS];
        private final long[] base = new long[LIMBS];

        static void add(long[] to, long[] f, long[] g) {
            for (int i = 0; i < LIMBS; i++) {
                to[i] = f[i] + g[i];
            }
        }

        static void subtract(long[] to, long[] f, long[] g) {
            for (int i = 0; i < LIMBS; i++) {
                to[i] = f[i] - g[i];
            }
        }

        static void negate(long[] to, long[] f) {
            for (int i = 0; i < LIMBS; i++) {
                to[i] = -f[i];
            }
        }

        static void copy(long[] to, long[] f) {
            for (int i = 0; i < LIMBS; i++) {
                to[i] = f[i];
            }
        }

        static void multiply(long[] to, long[] f, long[] g) {
            long f0 = f[0], f1 = f[1], f2 = f[2], f3 = f[3], f4 = f[4];
            long f5 = f[5], f6 = f[6], f7 = f[7], f8 = f[8], f9 = f[9];
            long g0 = g[0], g1 = g[1], g2 = g[2], g3 = g[3], g4 = g[4];
            long g5 = g[5], g6 = g[6], g7 = g[7], g8 = g[8], g9 = g[9];
            // limbs past the tenth come round to the first 19-fold; two odd ones meet half a bit higher, so 2-fold
            long h1 = 19 * g1, h2 = 19 * g2, h3 = 19 * g3, h4 = 19 * g4, h5 = 19 * g5;
            long h6 = 19 * g6, h7 = 19 * g7, h8 = 19 * g8, h9 = 19 * g9;
            long d1 = 2 * f1, d3 = 2 * f3, d5 = 2 * f5, d7 = 2 * f7, d9 = 2 * f9;
            long t = f0 * g0 + d1 * h9 + f2 * h8 + d3 * h7 + f4 * h6
                + d5 * h5 + f6 * h4 + d7 * h3 + f8 * h2 + d9 * h1;
            long first = t & LOW26;
            t = (t >> 26) + f0 * g1 + f1 * g0 + f2 * h9 + f3 * h8 + f4 * h7
                + f5 * h6 + f6 * h5 + f7 * h4 + f8 * h3 + f9 * h2;
            long second = t & LOW25;
            t = (t >> 25) + f0 * g2 + d1 * g1 + f2 * g0 + d3 * h9 + f4 * h8
                + d5 * h7 + f6 * h6 + d7 * h5 + f8 * h4 + d9 * h3;
            to[2] = t & LOW26;
            t = (t >> 26) + f0 * g3 + f1 * g2 + f2 * g1 + f3 * g0 + f4 * h9
                + f5 * h8 + f6 * h7 + f7 * h6 + f8 * h5 + f9 * h4;
            to[3] = t & LOW25;
            t = (t >> 25) + f0 * g4 + d1 * g3 + f2 * g2 + d3 * g1 + f4 * g0
                + d5 * h9 + f6 * h8 + d7 * h7 + f8 * h6 + d9 * h5;
            to[4] = t & LOW26;
            t = (t >> 26) + f0 * g5 + f1 * g4 + f2 * g3 + f3 * g2 + f4 * g1
                + f5 * g0 + f6 * h9 + f7 * h8 + f8 * h7 + f9 * h6;
            to[5] = t & LOW25;
            t = (t >> 25) + f0 * g6 + d1 * g5 + f2 * g4 + d3 * g3 + f4 * g2
                + d5 * g1 + f6 * g0 + d7 * h9 + f8 * h8 + d9 * h7;
            to[6] = t & LOW26;
            t = (t >> 26) + f0 * g7 + f1 * g6 + f2 * g5 + f3 * g4 + f4 * g3
                + f5 * g2 + f6 * g1 + f7 * g0 + f8 * h9 + f9 * h8;
            to[7] = t & LOW25;
            t = (t >> 25) + f0 * g8 + d1 * g7 + f2 * g6 + d3 * g5 + f4 * g4
                + d5 * g3 + f6 * g2 + d7 * g1 + f8 * g0 + d9 * h9;
            to[8] = t & LOW26;
            t = (t >> 26) + f0 * g9 + f1 * g8 + f2 * g7 + f3 * g6 + f4 * g5
                + f5 * g4 + f6 * g3 + f7 * g2 + f8 * g1 + f9 * g0;
            to[9] = t & LOW25;
            t = (t >> 25) * 19 + first;
            to[0] = t & LOW26;
            to[1] = second + (t >> 26);
        }

        /** The square of the square and so on, as many times as there are rounds. */
        static void square(long[] to, long[] f, int rounds) {
            long f0 = f[0], f1 = f[1], f2 = f[2], f3 = f[3], f4 = f[4];
            long f5 = f[5], f6 = f[6], f7 = f[7], f8 = f[8], f9 = f[9];
            for (int i = 0; i < rounds; i++) {
                long d0 = 2 * f0, d1 = 2 * f1, d2 = 2 * f2, d3 = 2 * f3, d4 = 2 * f4;
                long d5 = 2 * f5, d6 = 2 * f6, d7 = 2 * f7;
                long h5 = 38 * f5, h6 = 19 * f6, h7 = 38 * f7, h8 = 19 * f8, h9 = 38 * f9;
                long t = f0 * f0 + d1 * h9 + d2 * h8 + d3 * h7 + d4 * h6 + f5 * h5;
                long r0 = t & LOW26;
                t = (t >> 26) + d0 * f1 + f2 * h9 + d3 * h8 + f4 * h7 + d5 * h6;
                long r1 = t & LOW25;
                t = (t >> 25) + d0 * f2 + d1 * f1 + d3 * h9 + d4 * h8 + d5 * h7 + f6 * h6;
                long r2 = t & LOW26;
                t = (t >> 26) + d0 * f3 + d1 * f2 + f4 * h9 + d5 * h8 + f6 * h7;
                long r3 = t & LOW25;
                t = (t >> 25) + d0 * f4 + d1 * d3 + f2 * f2 + d5 * h9 + d6 * h8 + f7 * h7;
                long r4 = t & LOW26;
                t = (t >> 26) + d0 * f5 + d1 * f4 + d2 * f3 + f6 * h9 + d7 * h8;
                long r5 = t & LOW25;
                t = (t >> 25) + d0 * f6 + d1 * d5 + d2 * f4 + d3 * f3 + d7 * h9 + f8 * h8;
                long r6 = t & LOW26;
                t = (t >> 26) + d0 * f7 + d1 * f6 + d2 * f5 + d3 * f4 + f8 * h9;
                long r7 = t & LOW25;
                t = (t >> 25) + d0 * f8 + d1 * d7 + d2 * f6 + d3 * d5 + f4 * f4 + f9 * h9;
                long r8 = t & LOW26;
                t = (t >> 26) + d0 * f9 + d1 * f8 + d2 * f7 + d3 * f6 + d4 * f5;
                f9 = t & LOW25;
                t = (t >> 25) * 19 + r0;
                f0 = t & LOW26;
                f1 = r1 + (t >> 26);
                f2 = r2;
                f3 = r3;
                f4 = r4;
                f5 = r5;
                f6 = r6;
                f7 = r7;
                f8 = r8;
            }
            to[0] = f0;
            to[1] = f1;
            to[2] = f2;
            to[3] = f3;
            to[4] = f4;
            to[5] = f5;
            to[6] = f6;
            to[7] = f7;
            to[8] = f8;
            to[9] = f9;
        }

        /** The lowest 255 bits of 32 bytes. */
        static void load(long[] to, byte[] from, int at) {
            long held = 0;
            int bits = 0;
            int next = at;
            for (int i = 0; i < LIMBS; i++) {
                int width = 26 - (i & 1);
                while (bits < width) {
                    held |= (from[next] & 255L) << bits;
                    next++;
                    bits += 8;
                }
                to[i] = held & ((1L << width) - 1);
                held >>= width;
                bits -= width;
            }
        }

        void save(long[] f, Bytes to) {
            makeWhole(f);
            long held = 0;
            int bits = 0;
            for (int i = 0; i < LIMBS; i++) {
                held |= whole[i] << bits;
                bits += 26 - (i & 1);
                while (bits >= 8) {
                    to.putByte((int) held);
                    held >>= 8;
                    bits -= 8;
                }
            }
            to.putByte((int) held);
        }

        /** Puts f into the one form 0 .. p - 1 that oddness and equality are asked of. */
        private void makeWhole(long[] f) {
            for (int i = 0; i < LIMBS; i++) {
                whole[i] = f[i];
            }
            long carried = 0;
            for (int pass = 0; pass < 4; pass++) {
                // two passes bring it below 2 to the power 255; the third adds 19, which goes over that power
                // just when p or more was there, and the fourth takes the 19 away where it did not
                carried = 19 * carried + (pass == 2 ? 19 : pass == 3 ? -19 : 0);
                for (int i = 0; i < LIMBS; i++) {
                    int width = 26 - (i & 1);
                    carried += whole[i];
                    whole[i] = carried & ((1L << width) - 1);
                    carried >>= width;
                }
            }
        }

        boolean isOdd(long[] f) {
            makeWhole(f);
            return (whole[0] & 1) == 1;
        }

        boolean isZero(long[] f) {
            makeWhole(f);
            long any = 0;
            for (int i = 0; i < LIMBS; i++) {
                any |= whole[i];
            }
            return any == 0;
        }

        /** ROOT: true if it is good; r is none of the rows u and v. */
        boolean root(long[] r, long[] u, long[] v) {
            square(cube, v, 1);
            multiply(cube, cube, v);
            square(base, cube, 1);
            multiply(base, base, v);
            multiply(base, base, u);
            raise(r, base);
            multiply(r, r, cube);
            multiply(r, r, u);
            square(cube, r, 1);
            multiply(cube, cube, v);
            subtract(check, cube, u);
            boolean plain = isZero(check);
            add(check, cube, u);
            boolean negated = isZero(check);
            multiply(check, u, I);
            add(check, cube, check);
            if (negated || isZero(check)) {
                multiply(r, r, I);
            }
            if (isOdd(r)) {
                negate(r, r);
            }
            return plain || negated;
        }

        /** z to the power (p - 5) / 8, that is 2 to the power 252 - 3; to is not the row z. */
        private void raise(long[] to, long[] z) {
            square(low, z, 1);
            square(mid, low, 2);
            multiply(mid, mid, z);
            multiply(low, low, mid);
            square(low, low, 1);
            multiply(low, low, mid);
            // low is z to the power 2^5 - 1; from here on the run of ones grows
            square(mid, low, 5);
            multiply(low, mid, low);
            square(mid, low, 10);
            multiply(mid, mid, low);
            square(high, mid, 20);
            multiply(mid, high, mid);
            square(mid, mid, 10);
            multiply(low, mid, low);
            square(mid, low, 50);
            multiply(mid, mid, low);
            square(high, mid, 100);
            multiply(mid, high, mid);
            square(mid, mid, 50);
            multiply(low, mid, low);
            square(low, low, 2);
            multiply(to, low, z);
        }
    }

    private static final class Point {
        final long[] x = new long[Field.LIMBS];
        final long[] y = new long[Field.LIMBS];
        final long[] z = new long[Field.LIMBS];
        final long[] t = new long[Field.LIMBS];

        void copy(Point other) {
            Field.copy(x, other.x);
            Field.copy(y, other.y);
            Field.copy(z, other.z);
            Field.copy(t, other.t);
        }

        void setPlain(long[] plainX, long[] plainY) {
            Field.copy(x, plainX);
            Field.copy(y, plainY);
            Field.copy(z, Field.ONE);
            Field.multiply(t, plainX, plainY);
        }
    }

    /** The group: sums and multiples of points, their CODE, and the MAP of bytes to points. */
    private static final class Curve {
        private static final long[] ZERO = {0, 0, 0, 0, 0, 0, 0, 0, 0, 0};
        private static final long[] D = {
            56195235, 13857412, 51736253, 6949390, 114729, 24766616, 60832955, 30306712, 48412415, 21499315,
        };
        private static final long[] TWICE_D = {
            45281625, 27714825, 36363642, 13898781, 229458, 15978800, 54557047, 27058993, 29715967, 9444199,
        };
        /** The root of ROOT (1, -1 - D). */
        private static final long[] E = {
            6111466, 4156064, 39310137, 12243467, 41204824, 120896, 20826367, 26493656, 6093567, 31568420,
        };
        /** The odd square root of - D - 1. */
        private static final long[] G = {
            24849947, 33400850, 43495378, 6347714, 46036536, 32887293, 41837720, 18186727, 66238516, 14525638,
        };
        /** 1 - D^2. */
        private static final long[] ONE_LESS_SQUARE = {
            6275446, 16937061, 44170319, 29780721, 11667076, 7397348, 39186143, 1766194, 42675006, 672202,
        };
        /** (D - 1)^2. */
        private static final long[] LESS_ONE_SQUARED = {
            15551776, 22456977, 53683765, 23429360, 55212328, 10178283, 40474537, 4729243, 61826754, 23438029,
        };
        private static final long[] BASE_X = {
            52811034, 25909283, 16144682, 17082669, 27570973, 30858332, 40966398, 8378388, 20764389, 8758491,
        };
        private static final long[] BASE_Y = {
            40265304, 26843545, 13421772, 20132659, 26843545, 6710886, 53687091, 13421772, 40265318, 26843545,
        };
        private static final int TABLE = 16;

        private final Field field = new Field();
        private final Point[] table = new Point[TABLE];
        private final Point half = new Point();
        private final Bytes again = new Bytes(32);
        private final long[] a = new long[Field.LIMBS];
        private final long[] b = new long[Field.LIMBS];
        private final long[] c = new long[Field.LIMBS];
        private final long[] e = new long[Field.LIMBS];
        private final long[] f = new long[Field.LIMBS];
        private final long[] g = new long[Field.LIMBS];
        private final long[] h = new long[Field.LIMBS];
        private final long[] r = new long[Field.LIMBS];
        private final long[] s = new long[Field.LIMBS];

        Curve() {
            for (int i = 0; i < TABLE; i++) {
                table[i] = new Point();
            }
        }

        private void add(Point to, Point p, Point q) {
            Field.subtract(a, p.y, p.x);
            Field.subtract(b, q.y, q.x);
            Field.multiply(a, a, b);
            Field.add(b, p.y, p.x);
            Field.add(c, q.y, q.x);
            Field.multiply(b, b, c);
            Field.multiply(c, p.t, q.t);
            Field.multiply(c, c, TWICE_D);
            Field.multiply(s, p.z, q.z);
            Field.add(s, s, s);
            Field.subtract(e, b, a);
            Field.subtract(f, s, c);
            Field.add(g, s, c);
            Field.add(h, b, a);
            Field.multiply(to.x, e, f);
            Field.multiply(to.y, g, h);
            Field.multiply(to.t, e, h);
            Field.multiply(to.z, f, g);
        }

        /** Doubles n times; only a sum asks for t, so it is made at the end alone. */
        private void doubleTimes(Point p, int n) {
            for (int i = 0; i < n; i++) {
                Field.square(a, p.x, 1);
                Field.square(b, p.y, 1);
                Field.square(c, p.z, 1);
                Field.add(c, c, c);
                Field.add(e, p.x, p.y);
                Field.square(e, e, 1);
                Field.add(h, a, b);
                Field.subtract(e, e, h);
                Field.subtract(g, b, a);
                Field.subtract(f, c, g);
                Field.multiply(p.x, e, f);
                Field.multiply(p.y, g, h);
                Field.multiply(p.z, f, g);
            }
            Field.multiply(p.t, e, h);
        }

        /** A scalar below q times p; to may be p. */
        void multiply(Point to, byte[] scalar, Point p) {
            table[1].copy(p);
            for (int i = 2; i < TABLE; i++) {
                add(table[i], table[i - 1], table[1]);
            }
            to.setPlain(ZERO, Field.ONE);
            for (int i = 63; i >= 0; i--) {
                doubleTimes(to, 4);
                int digit = scalar[i >> 1] >> 4 * (i & 1) & 15;
                if (digit != 0) {
                    add(to, to, table[digit]);
                }
            }
        }

        void multiplyBase(Point to, byte[] scalar) {
            to.setPlain(BASE_X, BASE_Y);
            multiply(to, scalar, to);
        }

        void code(Point p, Bytes to) {
            Field.add(a, p.z, p.y);
            Field.subtract(b, p.z, p.y);
            Field.multiply(a, a, b);
            Field.multiply(b, p.x, p.y);
            Field.square(c, b, 1);
            Field.multiply(c, c, a);
            field.root(r, Field.ONE, c);
            Field.multiply(a, a, r);
            Field.multiply(b, b, r);
            Field.multiply(s, a, b);
            Field.multiply(s, s, p.t);
            Field.multiply(c, s, p.t);
            if (field.isOdd(c)) {
                Field.multiply(e, p.y, Field.I);
                Field.multiply(f, p.x, Field.I);
                Field.multiply(g, a, E);
            } else {
                Field.copy(e, p.x);
                Field.copy(f, p.y);
                Field.copy(g, b);
            }
            Field.multiply(c, e, s);
            if (field.isOdd(c)) {
                Field.negate(f, f);
            }
            Field.subtract(c, p.z, f);
            Field.multiply(c, c, g);
            if (field.isOdd(c)) {
                Field.negate(c, c);
            }
            field.save(c, to);
        }

        /** DECODE: false if there is no point. */
        boolean decode(byte[] from, int at, Point to) {
            if (at < 0 || at + 32 > from.length) {
                return false;
            }
            Field.load(s, from, at);
            again.clear();
            field.save(s, again);
            // p and what is above it would be saved as a smaller number
            return again.endsLike(0, from, at) && !field.isOdd(s) && solve(to);
        }

        /** The point whose CODE is the number s; false if there is none. */
        private boolean solve(Point to) {
            Field.square(a, s, 1);
            Field.add(b, Field.ONE, a);
            Field.subtract(a, Field.ONE, a);
            Field.square(c, b, 1);
            Field.square(f, a, 1);
            Field.multiply(f, f, D);
            Field.add(f, f, c);
            Field.negate(f, f);
            Field.multiply(c, c, f);
            boolean good = field.root(r, Field.ONE, c);
            Field.multiply(e, s, r);
            Field.multiply(e, e, b);
            Field.add(e, e, e);
            if (field.isOdd(e)) {
                Field.negate(e, e);
            }
            Field.square(g, r, 1);
            Field.multiply(g, g, a);
            Field.multiply(g, g, b);
            Field.multiply(g, g, f);
            Field.multiply(h, e, g);
            if (!good || field.isOdd(h) || field.isZero(g)) {
                return false;
            }
            to.setPlain(e, g);
            return true;
        }

        void map(byte[] from, Point to) {
            mapHalf(from, 0, to);
            mapHalf(from, 32, half);
            add(to, to, half);
        }

        private void mapHalf(byte[] from, int at, Point to) {
            Field.load(h, from, at);
            Field.square(r, h, 1);
            Field.multiply(r, r, Field.I);
            Field.add(a, r, Field.ONE);
            Field.multiply(a, a, ONE_LESS_SQUARE);
            Field.multiply(b, r, D);
            Field.add(b, b, Field.ONE);
            Field.negate(b, b);
            Field.add(c, r, D);
            Field.multiply(b, b, c);
            boolean good = field.root(s, a, b);
            Field.negate(c, Field.ONE);
            if (!good) {
                Field.multiply(s, s, h);
                if (!field.isOdd(s)) {
                    Field.negate(s, s);
                }
                Field.copy(c, r);
            }
            Field.subtract(r, r, Field.ONE);
            Field.multiply(c, c, r);
            Field.multiply(c, c, LESS_ONE_SQUARED);
            Field.subtract(c, c, b);
            Field.multiply(a, s, b);
            Field.add(a, a, a);
            Field.multiply(b, c, G);
            Field.square(s, s, 1);
            Field.subtract(c, Field.ONE, s);
            Field.add(s, Field.ONE, s);
            Field.multiply(to.x, a, s);
            Field.multiply(to.y, c, b);
            Field.multiply(to.z, b, s);
            Field.multiply(to.t, a, c);
        }
    }

    /** Numbers modulo q, in bytes outside and in limbs of 28 bits inside: nine of them are just the power 252. */
    private static final class Scalars {
        private static final int WIDTH = 28;
        private static final long LOW = (1L << WIDTH) - 1;
        private static final int POWER = 9;
        private static final int LIMBS = 10;
        private static final int ROOM = 20;
        private static final long[] Q = {217437165, 19280293, 127719000, 262007343, 5342, 0, 0, 0, 0, 1};
        /** How many limbs q has beside the one of its highest power. */
        private static final int REST = 5;

        private final long[] held = new long[ROOM];
        private final long[] folded = new long[ROOM];
        private final long[] base = new long[ROOM];
        private final long[] power = new long[ROOM];

        /** The first n bytes (at most 64) modulo q, as 32 bytes. */
        void reduce(byte[] from, int n, byte[] to) {
            load(from, n);
            fold();
            save(to);
        }

        /** 1 / a by Fermat: a to the power q - 2. */
        void invert(byte[] a, byte[] to) {
            load(a, 32);
            fold();
            System.arraycopy(held, 0, base, 0, ROOM);
            for (int i = 0; i < ROOM; i++) {
                power[i] = i == 0 ? 1 : 0;
            }
            for (int bit = 252; bit >= 0; bit--) {
                multiply(power, power);
                long limb = bit < WIDTH ? Q[0] - 2 : Q[bit / WIDTH];
                if ((limb >> bit % WIDTH & 1) == 1) {
                    multiply(power, base);
                }
            }
            System.arraycopy(power, 0, held, 0, ROOM);
            save(to);
        }

        private void multiply(long[] f, long[] g) {
            for (int i = 0; i < ROOM; i++) {
                folded[i] = 0;
            }
            for (int i = 0; i < LIMBS; i++) {
                for (int j = 0; j < LIMBS; j++) {
                    folded[i + j] += f[i] * g[j];
                }
            }
            carry();
            fold();
            System.arraycopy(held, 0, f, 0, ROOM);
        }

        /** Brings what is held into 0 .. q - 1. */
        private void fold() {
            // each pass takes some 127 bits away; three leave less than q below 0 and less than q above q
            for (int pass = 0; pass < 3; pass++) {
                foldOnce();
            }
            addModulus(-1);
            for (int i = 0; i < 2; i++) {
                if (held[ROOM - 1] < 0) {
                    addModulus(1);
                }
            }
        }

        /** The power 252 is the negative of q's lower limbs, modulo q. */
        private void foldOnce() {
            for (int i = 0; i < ROOM; i++) {
                folded[i] = i < POWER ? held[i] : 0;
            }
            for (int i = POWER; i < ROOM; i++) {
                long limb = held[i];
                if (limb != 0) {
                    for (int j = 0; j < REST; j++) {
                        folded[i - POWER + j] -= limb * Q[j];
                    }
                }
            }
            carry();
        }

        private void addModulus(int sign) {
            for (int i = 0; i < ROOM; i++) {
                folded[i] = i < LIMBS ? held[i] + sign * Q[i] : held[i];
            }
            carry();
        }

        /** The last limb keeps the sign. */
        private void carry() {
            long carried = 0;
            for (int i = 0; i < ROOM - 1; i++) {
                long limb = folded[i] + carried;
                carried = limb >> WIDTH;
                held[i] = limb & LOW;
            }
            held[ROOM - 1] = folded[ROOM - 1] + carried;
        }

        private void load(byte[] from, int n) {
            for (int i = 0; i < ROOM; i++) {
                folded[i] = 0;
            }
            for (int i = 0; i < n; i++) {
                folded[8 * i / WIDTH] += (from[i] & 255L) << 8 * i % WIDTH;
            }
            carry();
        }

        private void save(byte[] to) {
            long bits = 0;
            int count = 0;
            int next = 0;
            for (int i = 0; i < 32; i++) {
                if (count < 8) {
                    bits |= held[next] << count;
                    next++;
                    count += WIDTH;
                }
                to[i] = (byte) bits;
                bits >>= 8;
                count -= 8;
            }
        }
    }

    /** The tools that client and server share, chance among them. */
    private static final class Kit {
        final Digest digest = new Digest();
        final Keyed keyed = new Keyed();
        final Curve curve = new Curve();
        final Scalars scalars = new Scalars();
        final Point point = new Point();
        final Point other = new Point();
        final byte[] scalar = new byte[32];
        final byte[] wide = new byte[64];
        final byte[] random = new byte[64];
        final byte[] maskKey = new byte[64];
        final byte[] clientKey = new byte[32];
        final Bytes clientPublic = new Bytes(32);
        final byte[] seal = new byte[64];
        final byte[] exportKey = new byte[64];

        final Point made = new Point();
        private final byte[] pad = new byte[128];
        private final Bytes body = new Bytes(400);
        private final Bytes info = new Bytes(150);
        private final int seed;
        private int chances;

        Kit(int seed) {
            this.seed = seed;
            // the first two chances are the server's, whenever it takes them
            this.chances = 2;
        }

        void chanceAt(int k, byte[] to) {
            body.clear();
            body.putText("chance");
            body.putNumber(seed, 4);
            body.putNumber(k, 4);
            digest.run(body, to);
        }

        void nextChance(byte[] to) {
            chanceAt(chances, to);
            chances++;
        }

        void putNonce(Bytes to) {
            nextChance(wide);
            to.put(wide, 0, 32);
        }

        void nextScalar(byte[] to) {
            nextChance(wide);
            scalars.reduce(wide, 64, to);
            int any = 0;
            for (int i = 0; i < 32; i++) {
                any |= to[i];
            }
            if (any == 0) {
                to[0] = 1;
            }
        }

        private void stretch(Bytes a, String tag, byte[] to) {
            body.clear();
            body.putZeros(128);
            body.putAll(a);
            body.putNumber(64, 2);
            body.putByte(0);
            putTag(tag);
            digest.run(body, to);
            body.clear();
            body.put(to, 0, 64);
            body.putByte(1);
            putTag(tag);
            digest.run(body, to);
        }

        private void putTag(String tag) {
            int start = body.length;
            body.putText(tag);
            body.putText("OPRFV1-");
            body.putByte(0);
            body.putText("-ristretto255-SHA512");
            body.putByte(body.length - start);
        }

        void groupOf(Bytes a, Point to) {
            stretch(a, "HashToGroup-", wide);
            curve.map(wide, to);
        }

        /** KEY of the first 32 bytes. */
        void keyOf(byte[] a, String name, byte[] to) {
            info.clear();
            info.put(a, 0, 32);
            info.putNumber(name.length(), 2);
            info.putText(name);
            info.putByte(0);
            stretch(info, "DeriveKeyPair", wide);
            scalars.reduce(wide, 64, to);
        }

        void putPublic(byte[] secret, Bytes to) {
            curve.multiplyBase(made, secret);
            curve.code(made, to);
        }

        /** SECOND, from the password's point times the user's key on, and the mask key by it. */
        void randomize(Bytes password, Point evaluated) {
            body.clear();
            body.putNumber(password.length, 2);
            body.putAll(password);
            body.putNumber(32, 2);
            curve.code(evaluated, body);
            body.putText("Finalize");
            digest.run(body, wide);
            body.clear();
            body.put(wide, 0, 64);
            body.put(wide, 0, 64);
            keyed.extract(body, random);
            info.clear();
            info.putText("MaskingKey");
            keyed.expand(random, info, maskKey, 64);
        }

        /** The client's keys, the export key and the envelope's MAC, by what randomize made and the nonce. */
        void sealEnvelope(byte[] from, int nonceAt, byte[] serverPublic) {
            expandBy(from, nonceAt, "PrivateKey", 32);
            keyOf(wide, "OPAQUE-DeriveDiffieHellmanKeyPair", clientKey);
            clientPublic.clear();
            putPublic(clientKey, clientPublic);
            expandBy(from, nonceAt, "ExportKey", 64);
            System.arraycopy(wide, 0, exportKey, 0, 64);
            expandBy(from, nonceAt, "AuthKey", 64);
            body.clear();
            body.put(from, nonceAt, 32);
            body.put(serverPublic, 0, 32);
            body.putNumber(32, 2);
            body.put(serverPublic, 0, 32);
            body.putNumber(32, 2);
            body.putAll(clientPublic);
            keyed.mac(wide, body, seal);
        }

        private void expandBy(byte[] from, int nonceAt, String name, int n) {
            info.clear();
            info.put(from, nonceAt, 32);
            info.putText(name);
            keyed.expand(random, info, wide, n);
        }

        /** Masks 128 bytes, or unmasks them, by the nonce m that stands in message 2. */
        void putMasked(byte[] key, byte[] message, byte[] from, int at, Bytes to) {
            info.clear();
            info.put(message, 32, 32);
            info.putText("CredentialResponsePad");
            keyed.expand(key, info, pad, 128);
            for (int i = 0; i < 128; i++) {
                to.putByte(from[at + i] ^ pad[i]);
            }
        }
    }

    /** The exchange of keys, as either side reckons it. */
    private static final class Exchange {
        final byte[] serverMac = new byte[64];
        final byte[] clientMac = new byte[64];
        final byte[] sessionKey = new byte[64];
        private final Bytes preamble = new Bytes(500);
        private final Bytes joined = new Bytes(96);
        private final Bytes told = new Bytes(64);
        private final byte[] secret = new byte[64];
        private final byte[] handshake = new byte[64];
        private final byte[] macKey = new byte[64];
        private final byte[] heard = new byte[64];

        void open(byte[] clientPublic, byte[] first, byte[] serverPublic, byte[] second) {
            joined.clear();
            preamble.clear();
            preamble.putText("OPAQUEv1-");
            preamble.putNumber(0, 2);
            preamble.putNumber(32, 2);
            preamble.put(clientPublic, 0, 32);
            preamble.put(first, 0, 96);
            preamble.putNumber(32, 2);
            preamble.put(serverPublic, 0, 32);
            preamble.put(second, 0, 256);
        }

        void join(Kit kit, byte[] scalar, Point point) {
            kit.curve.multiply(kit.made, scalar, point);
            kit.curve.code(kit.made, joined);
        }

        void settle(Kit kit) {
            kit.digest.run(preamble, heard);
            kit.keyed.extract(joined, secret);
            kit.keyed.label(secret, "HandshakeSecret", heard, 64, handshake);
            kit.keyed.label(secret, "SessionKey", heard, 64, sessionKey);
            confirm(kit, "ServerMAC", serverMac);
            preamble.put(serverMac, 0, 64);
            kit.digest.run(preamble, heard);
            confirm(kit, "ClientMAC", clientMac);
        }

        private void confirm(Kit kit, String name, byte[] to) {
            kit.keyed.label(handshake, name, heard, 0, macKey);
            told.clear();
            told.put(heard, 0, 64);
            kit.keyed.mac(macKey, told, to);
        }
    }

    /** One session: its messages on the wire, and what its client and the server remember of it. */
    private static final class Session {
        final Bytes[] wires = new Bytes[3];
        final Bytes[] keys = new Bytes[3];
        final byte[] awaitedMac = new byte[64];
        final byte[] awaitingKey = new byte[64];
        int user;
        private final boolean[] taken = new boolean[3];
        private final Bytes password = new Bytes(TEXT_ROOM);
        private final Bytes sent = new Bytes(96);
        private final Bytes opened = new Bytes(128);
        private final byte[] blind = new byte[32];
        private final byte[] share = new byte[32];

        Session() {
            wires[0] = new Bytes(96);
            wires[1] = new Bytes(320);
            wires[2] = new Bytes(64);
            for (int i = 0; i < 3; i++) {
                keys[i] = new Bytes(64);
            }
        }

        /** False if the message is not there or was taken before. */
        boolean take(int message) {
            if (wires[message].length == 0 || taken[message]) {
                return false;
            }
            taken[message] = true;
            return true;
        }

        void start(Kit kit, int newUser, Bytes text) {
            for (int i = 0; i < 3; i++) {
                wires[i].clear();
                keys[i].clear();
                taken[i] = false;
            }
            user = newUser;
            password.clear();
            password.putAll(text);
            sent.clear();
            kit.nextScalar(blind);
            kit.groupOf(password, kit.point);
            kit.curve.multiply(kit.point, blind, kit.point);
            kit.curve.code(kit.point, sent);
            kit.putNonce(sent);
            kit.nextScalar(share);
            kit.putPublic(share, sent);
            wires[0].putAll(sent);
        }

        /** The client reads message 2. */
        int confirmServer(Kit kit, Exchange exchange) {
            byte[] second = wires[1].data;
            if (!kit.curve.decode(second, 0, kit.point)) {
                return NO_POINT;
            }
            kit.scalars.invert(blind, kit.scalar);
            kit.curve.multiply(kit.point, kit.scalar, kit.point);
            kit.randomize(password, kit.point);
            opened.clear();
            kit.putMasked(kit.maskKey, second, second, 64, opened);
            kit.sealEnvelope(opened.data, 32, opened.data);
            if (!opened.endsLike(64, kit.seal, 0)) {
                return WRONG_ENVELOPE;
            }
            if (!kit.curve.decode(opened.data, 0, kit.point) || !kit.curve.decode(second, 224, kit.other)) {
                return NO_POINT;
            }
            exchange.open(kit.clientPublic.data, sent.data, opened.data, second);
            exchange.join(kit, share, kit.other);
            exchange.join(kit, share, kit.point);
            exchange.join(kit, kit.clientKey, kit.other);
            exchange.settle(kit);
            if (!wires[1].endsLike(256, exchange.serverMac, 0)) {
                return WRONG_SERVER;
            }
            wires[2].put(exchange.clientMac, 0, 64);
            keys[0].put(exchange.sessionKey, 0, 64);
            keys[2].put(kit.exportKey, 0, 64);
            return DONE;
        }

        /** The server reads message 3. */
        int confirmClient() {
            if (!wires[2].endsLike(0, awaitedMac, 0)) {
                return WRONG_CLIENT;
            }
            keys[1].put(awaitingKey, 0, 64);
            return DONE;
        }
    }

    /** The server's keys and its users' records: U', the mask key and the envelope, none for who is not enrolled. */
    private static final class Server {
        private static final int RECORD = 192;
        private final Bytes[] records = new Bytes[USERS];
        private final Bytes madeUp = new Bytes(RECORD);
        private final Bytes hidden = new Bytes(128);
        private final Bytes nonce = new Bytes(32);
        private final Bytes info = new Bytes(20);
        private final byte[] secret = new byte[64];
        private final byte[] ownKey = new byte[32];
        private final Bytes ownPublic = new Bytes(32);
        private final byte[] userKey = new byte[32];
        private final byte[] share = new byte[32];
        private final byte[] maskKey = new byte[64];

        Server() {
            for (int i = 0; i < USERS; i++) {
                records[i] = new Bytes(RECORD);
            }
        }

        /** The keys are made at first use, since a constructor hands nothing of its object out. */
        private void open(Kit kit) {
            if (ownPublic.length > 0) {
                return;
            }
            kit.chanceAt(0, secret);
            kit.chanceAt(1, kit.wide);
            kit.keyOf(kit.wide, "OPAQUE-DeriveDiffieHellmanKeyPair", ownKey);
            kit.putPublic(ownKey, ownPublic);
        }

        private void findUserKey(Kit kit, int user) {
            info.clear();
            info.putText("user");
            info.putByte(user);
            info.putText("OprfKey");
            kit.keyed.expand(secret, info, kit.wide, 32);
            kit.keyOf(kit.wide, "OPAQUE-DeriveKeyPair", userKey);
        }

        void register(Kit kit, int user, Bytes password) {
            open(kit);
            findUserKey(kit, user);
            kit.groupOf(password, kit.point);
            kit.curve.multiply(kit.point, userKey, kit.point);
            kit.randomize(password, kit.point);
            nonce.clear();
            kit.putNonce(nonce);
            kit.sealEnvelope(nonce.data, 0, ownPublic.data);
            Bytes record = records[user];
            record.clear();
            record.putAll(kit.clientPublic);
            record.put(kit.maskKey, 0, 64);
            record.putAll(nonce);
            record.put(kit.seal, 0, 64);
        }

        /** A record for a user that is not enrolled, so that nobody can tell by message 2. */
        private void makeUp(Kit kit) {
            madeUp.clear();
            kit.nextChance(maskKey);
            kit.nextScalar(share);
            kit.putPublic(share, madeUp);
            madeUp.put(maskKey, 0, 64);
            madeUp.putZeros(96);
        }

        /** Reads message 1 and makes message 2. */
        int reply(Kit kit, Exchange exchange, Session session) {
            byte[] first = session.wires[0].data;
            if (!kit.curve.decode(first, 0, kit.point) || !kit.curve.decode(first, 64, kit.other)) {
                return NO_POINT;
            }
            open(kit);
            Bytes record = records[session.user];
            if (record.length == 0) {
                makeUp(kit);
                record = madeUp;
            }
            findUserKey(kit, session.user);
            Bytes second = session.wires[1];
            putCredentials(kit, record, second);
            kit.putNonce(second);
            kit.nextScalar(share);
            kit.putPublic(share, second);
            exchange.open(record.data, first, ownPublic.data, second.data);
            exchange.join(kit, share, kit.other);
            exchange.join(kit, ownKey, kit.other);
            kit.curve.decode(record.data, 0, kit.point);
            exchange.join(kit, share, kit.point);
            exchange.settle(kit);
            second.put(exchange.serverMac, 0, 64);
            System.arraycopy(exchange.clientMac, 0, session.awaitedMac, 0, 64);
            System.arraycopy(exchange.sessionKey, 0, session.awaitingKey, 0, 64);
            return DONE;
        }

        /** The blinded point evaluated, and S' and the envelope under the mask. */
        private void putCredentials(Kit kit, Bytes record, Bytes to) {
            kit.curve.multiply(kit.point, userKey, kit.point);
            kit.curve.code(kit.point, to);
            kit.putNonce(to);
            hidden.clear();
            hidden.putAll(ownPublic);
            hidden.put(record.data, 96, 96);
            System.arraycopy(record.data, 32, maskKey, 0, 64);
            kit.putMasked(maskKey, to.data, hidden.data, 0, to);
        }
    }
}
